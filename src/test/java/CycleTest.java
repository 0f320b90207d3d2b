/** Promises 8, 9 and 10: how many cycles are done, the engine, halting and the counter. */
public final class CycleTest {
    private static final Checks CHECKS = new Checks();

    public static void main(String[] args) {
        howMany();
        counterGoesRound();
        halting();
        haltWithOtherParts();
        haltedDoesNothing();
        wrongEngine();
        enginesAreAlike();
        CHECKS.end();
    }

    private static GateProcessor endless() {
        GateProcessor x = new GateProcessor();
        for (int i = 0; i < 32; i++) {
            x.program(i, Tools.word(Tools.LOAD, 0, 0, i));
        }
        return x;
    }

    private static void howMany() {
        int[] asked = {0, 1, 2, 31, 32, 33, 59, 60, 61, 62, 99, 1000, Integer.MAX_VALUE, -1, -2, -60, Integer.MIN_VALUE};
        for (int n : asked) {
            int want = n < 0 ? 0 : n > 60 ? 60 : n;
            for (int engine = 0; engine < 4; engine++) {
                GateProcessor x = endless();
                CHECKS.due("cycle(" + n + ", " + engine + ")", x.cycle(n, engine), want);
                CHECKS.due("counter() after cycle(" + n + ", " + engine + ")", x.counter(), want % 32);
                CHECKS.due("halted() after cycle(" + n + ", " + engine + ")", x.halted(), false);
            }
        }
        GateProcessor x = endless();
        x.cycle(5, 0);
        x.cycle(4, 1);
        CHECKS.due("counter() after 5 and 4 cycles", x.counter(), 9);
        CHECKS.due("register(0) after 5 and 4 cycles", x.register(0), 8);
    }

    private static void counterGoesRound() {
        GateProcessor x = endless();
        for (int i = 1; i <= 70; i++) {
            x.cycle(1, i % 4);
            CHECKS.due("counter() after " + i + " cycles", x.counter(), i % 32);
            CHECKS.due("register(0) after " + i + " cycles", x.register(0), (i - 1) % 32);
        }
    }

    private static void halting() {
        GateProcessor x = endless();
        x.program(3, Tools.HALT);
        CHECKS.due("cycle(3, 0) before HALT", x.cycle(3, 0), 3);
        CHECKS.due("halted() at HALT", x.halted(), false);
        CHECKS.due("cycle(0, 0) at HALT", x.cycle(0, 0), 0);
        CHECKS.due("halted() after no cycle", x.halted(), false);
        CHECKS.due("cycle(9, 0) of HALT", x.cycle(9, 0), 1);
        CHECKS.due("halted() after HALT", x.halted(), true);
        CHECKS.due("counter() after HALT", x.counter(), 3);
        x.reset();
        CHECKS.due("halted() after reset", x.halted(), false);
        CHECKS.due("cycle(60, 1) to HALT", x.cycle(60, 1), 4);
        CHECKS.due("register(0) after HALT", x.register(0), 2);
        GateProcessor last = endless();
        last.program(31, Tools.HALT);
        CHECKS.due("cycle(60, 2) to HALT at 31", last.cycle(60, 2), 32);
        CHECKS.due("counter() at HALT at 31", last.counter(), 31);
        GateProcessor loop = endless();
        loop.program(31, Tools.word(Tools.JUMP, 0, 0, 5));
        loop.cycle(58, 0);
        loop.program(5, Tools.HALT);
        CHECKS.due("cycle(60, 3) to a HALT written later", loop.cycle(60, 3), 2);
    }

    private static void haltWithOtherParts() {
        for (int part = 0; part < 4096; part++) {
            GateProcessor x = Tools.with(16 * part);
            CHECKS.due("cycle(2, 0) of word " + 16 * part, x.cycle(2, 0), 1);
            CHECKS.due("state after word " + 16 * part, Tools.state(x), Tools.NEW_STATE.replace("false", "true"));
        }
    }

    private static void haltedDoesNothing() {
        GateProcessor x = Tools.busy();
        x.program(8, Tools.word(Tools.LOAD, 0, 0, 200));
        for (int engine = 0; engine < 4; engine++) {
            CHECKS.due("cycle(60, " + engine + ") when halted", x.cycle(60, engine), 0);
            CHECKS.due("cycle(1, " + engine + ") when halted", x.cycle(1, engine), 0);
            CHECKS.due("cycle(-1, " + engine + ") when halted", x.cycle(-1, engine), 0);
        }
        CHECKS.due("state when halted", Tools.state(x), Tools.BUSY_STATE);
        CHECKS.due("setRegister(0, 3) when halted", x.setRegister(0, 3), true);
        CHECKS.due("setMemory(0, 3) when halted", x.setMemory(0, 3), true);
        CHECKS.due("in(3) when halted", x.in(3), true);
        CHECKS.due("halted() after setting", x.halted(), true);
    }

    private static void wrongEngine() {
        GateProcessor x = Tools.busy();
        GateProcessor y = endless();
        String words = Tools.words(x);
        y.cycle(2, 0);
        for (int bad : new int[] {-1, 4, 5, -4, 256, Integer.MIN_VALUE, Integer.MAX_VALUE}) {
            for (int n : new int[] {-1, 0, 1, 60, 61}) {
                CHECKS.due("cycle(" + n + ", " + bad + ") when halted", x.cycle(n, bad), GateProcessor.BAD);
                CHECKS.due("cycle(" + n + ", " + bad + ")", y.cycle(n, bad), GateProcessor.BAD);
            }
        }
        CHECKS.due("counter() after refusals", y.counter(), 2);
        CHECKS.due("register(0) after refusals", y.register(0), 1);
        CHECKS.due("state after refusals", Tools.state(x), Tools.BUSY_STATE);
        CHECKS.due("program after refusals", Tools.words(x), words);
        CHECKS.due("IN port after refusals", Tools.inPort(x), 77);
    }

    private static void enginesAreAlike() {
        for (int engine = 0; engine < 4; engine++) {
            GateProcessor x = Tools.busy();
            x.reset();
            x.setRegister(0, 250);
            x.setRegister(1, 9);
            x.setRegister(2, 129);
            CHECKS.due("cycle(60, " + engine + ")", x.cycle(60, engine), 5);
            String want = "registers 3 9 2 0, memory" + " 0".repeat(16)
                + ", flags 2, counter 8, link 1, out 0, outs 1, halted true";
            CHECKS.due("state by engine " + engine, Tools.state(x), want);
        }
    }
}
