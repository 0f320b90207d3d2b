/** All promises together: the program beside the model, over every pair of bytes and over long mixed runs. */
public final class ModelTest {
    private static final int RUNS = 6000;
    private static final Checks CHECKS = new Checks();
    // A fixed row of numbers, so that every run of this test is the same.
    private static long seed = 20261115L;

    public static void main(String[] args) {
        everyPairOfBytes();
        everyWord();
        for (int run = 0; run < RUNS; run++) {
            mixedRun(run);
        }
        CHECKS.end();
    }

    private static int below(int bound) {
        seed = seed * 6364136223846793005L + 1442695040888963407L;
        return (int) ((seed >>> 33) % bound);
    }

    private static void everyPairOfBytes() {
        for (int op = Tools.MOVE; op <= Tools.SHIFT; op++) {
            for (int pair = 0; pair < 65536; pair++) {
                GateProcessor x = new GateProcessor();
                Model y = new Model();
                String at = "operation " + op + " of " + pair % 256 + " and " + pair / 256;
                for (int m = 0; m < 4; m++) {
                    put(x, y, m, Tools.word(op, 0, 1, m));
                }
                // One after the other, so that later ones begin with the flags of those before.
                for (int m = 0; m < 4; m++) {
                    set(x, y, 0, pair % 256);
                    set(x, y, 1, pair / 256);
                    x.cycle(1, m);
                    y.cycle(1);
                    CHECKS.due(at + ", step " + m, x.register(0) * 4 + x.flags(), y.register[0] * 4 + y.zero + 2 * y.carry);
                }
            }
        }
    }

    private static void everyWord() {
        for (int w = 0; w < 65536; w++) {
            GateProcessor x = new GateProcessor();
            Model y = new Model();
            put(x, y, 0, Tools.word(Tools.SHIFT, 3, 0, below(4)));
            put(x, y, 1, Tools.word(Tools.CALL, 0, 0, 9));
            put(x, y, 9, w);
            x.in(w % 251);
            y.in = w % 251;
            fill(x, y);
            CHECKS.due("cycle(3, 0) with word " + w, x.cycle(3, 0), y.cycle(3));
            CHECKS.due("state after word " + w, Tools.state(x), y.state());
        }
    }

    private static void put(GateProcessor x, Model y, int position, int word) {
        x.program(position, word);
        y.word[position] = word;
    }

    private static void set(GateProcessor x, Model y, int r, int v) {
        x.setRegister(r, v);
        y.register[r] = v;
    }

    private static void fill(GateProcessor x, Model y) {
        for (int r = 0; r < 4; r++) {
            set(x, y, r, below(3) == 0 ? below(3) : below(256));
        }
        for (int a = 0; a < 16; a++) {
            y.memory[a] = below(256);
            x.setMemory(a, y.memory[a]);
        }
    }

    private static void mixedRun(int run) {
        GateProcessor x = new GateProcessor();
        Model y = new Model();
        for (int i = 0; i < 32; i++) {
            // HALT is made rare, or most runs would end at once.
            put(x, y, i, below(40) == 0 ? 0 : below(15) + 1 + 16 * below(4096));
        }
        fill(x, y);
        for (int part = 0; part < 8; part++) {
            String at = "run " + run + ", part " + part;
            int n = below(80) - 5;
            CHECKS.due(at + ", cycle(" + n + ", ..)", x.cycle(n, below(4)), y.cycle(n));
            CHECKS.due(at + ", state", Tools.state(x), y.state());
            int r = below(4);
            int s = below(4);
            CHECKS.due(at + ", same(" + r + ", " + s + ")", x.same(r, s), y.register[r] == y.register[s]);
            change(x, y);
        }
    }

    private static void change(GateProcessor x, Model y) {
        int v = below(256);
        int which = below(5);
        if (which == 0) {
            x.in(v);
            y.in = v;
        } else if (which == 1) {
            set(x, y, v % 4, v);
        } else if (which == 2) {
            x.setMemory(v % 16, v);
            y.memory[v % 16] = v;
        } else if (which == 3) {
            put(x, y, v % 32, below(65536));
        } else {
            x.reset();
            y.reset();
        }
    }
}
