/** Promises 1 to 7, 11, 12 and 17, and the refusals of promise 18: what is set, read, reset and refused. */
public final class StateTest {
    private static final Checks CHECKS = new Checks();

    public static void main(String[] args) {
        newObject();
        objectsStandAlone();
        programAndWord();
        programRefuses();
        reset();
        inPort();
        registers();
        memory();
        same();
        readingChangesNothing();
        CHECKS.end();
    }

    private static void newObject() {
        GateProcessor x = new GateProcessor();
        CHECKS.due("state of a new object", Tools.state(x), Tools.NEW_STATE);
        CHECKS.due("program of a new object", Tools.words(x), "words" + " 0".repeat(32));
        x.setRegister(0, 9);
        x.program(0, Tools.word(Tools.PORT, 0, 0, 0));
        x.cycle(1, 0);
        CHECKS.due("IN port of a new object", x.register(0), 0);
    }

    private static void objectsStandAlone() {
        GateProcessor used = Tools.busy();
        CHECKS.due("the busy object", Tools.state(used), Tools.BUSY_STATE);
        GateProcessor x = new GateProcessor();
        CHECKS.due("a new object beside it", Tools.state(x) + Tools.words(x), Tools.NEW_STATE + "words" + " 0".repeat(32));
    }

    private static void programAndWord() {
        GateProcessor x = new GateProcessor();
        for (int i = 0; i < 32; i++) {
            CHECKS.due("program(" + i + ", 65535 - 3 * i)", x.program(i, 65535 - 3 * i), true);
        }
        for (int i = 0; i < 32; i++) {
            CHECKS.due("word(" + i + ")", x.word(i), 65535 - 3 * i);
        }
        CHECKS.due("program(31, 0)", x.program(31, 0), true);
        CHECKS.due("word(31) written again", x.word(31), 0);
        CHECKS.due("word(30) beside it", x.word(30), 65535 - 90);
        CHECKS.due("state after program", Tools.state(x), Tools.NEW_STATE);
        CHECKS.due("program(8, 513) when halted", Tools.busy().program(8, 513), true);
    }

    private static void programRefuses() {
        GateProcessor x = Tools.busy();
        String words = Tools.words(x);
        for (int bad : Tools.FAR) {
            CHECKS.due("program(" + bad + ", 5)", x.program(bad, 5), false);
            CHECKS.due("program(5, " + bad + ")", x.program(5, bad), false);
            CHECKS.due("program(" + bad + ", " + bad + ")", x.program(bad, bad), false);
            CHECKS.due("word(" + bad + ")", x.word(bad), GateProcessor.BAD);
        }
        CHECKS.due("program(32, 5)", x.program(32, 5), false);
        CHECKS.due("word(32)", x.word(32), GateProcessor.BAD);
        CHECKS.due("program after refusals", Tools.words(x), words);
        CHECKS.due("state after refusals", Tools.state(x), Tools.BUSY_STATE);
        CHECKS.due("IN port after refusals", Tools.inPort(x), 77);
    }

    private static void reset() {
        GateProcessor x = Tools.busy();
        String words = Tools.words(x);
        x.reset();
        CHECKS.due("state after reset", Tools.state(x), Tools.NEW_STATE);
        CHECKS.due("program after reset", Tools.words(x), words);
        CHECKS.due("IN port after reset", Tools.inPort(x), 77);
        x.reset();
        x.reset();
        CHECKS.due("state after reset twice", Tools.state(x), Tools.NEW_STATE);
        CHECKS.due("cycle(1, 0) after reset", x.cycle(1, 0), 1);
    }

    private static void inPort() {
        for (int v = 0; v < 256; v++) {
            GateProcessor x = new GateProcessor();
            CHECKS.due("in(" + v + ")", x.in(v), true);
            CHECKS.due("state after in(" + v + ")", Tools.state(x), Tools.NEW_STATE);
            CHECKS.due("IN port after in(" + v + ")", Tools.inPort(x), v);
        }
        GateProcessor x = Tools.busy();
        for (int bad : Tools.FAR) {
            CHECKS.due("in(" + bad + ")", x.in(bad), false);
        }
        CHECKS.due("in(256)", x.in(256), false);
        CHECKS.due("state after refusals of in", Tools.state(x), Tools.BUSY_STATE);
        CHECKS.due("IN port after refusals of in", Tools.inPort(x), 77);
    }

    private static void registers() {
        for (int r = 0; r < 4; r++) {
            GateProcessor x = Tools.busy();
            String[] values = {"16", "9", "0", "44"};
            for (int v : new int[] {0, 1, 127, 128, 254, 255}) {
                CHECKS.due("setRegister(" + r + ", " + v + ")", x.setRegister(r, v), true);
                CHECKS.due("register(" + r + ")", x.register(r), v);
            }
            values[r] = "255";
            String want = Tools.BUSY_STATE.replace("16 9 0 44", String.join(" ", values));
            CHECKS.due("state after setRegister(" + r + ", 255)", Tools.state(x), want);
        }
        GateProcessor x = Tools.busy();
        for (int bad : Tools.FAR) {
            CHECKS.due("setRegister(" + bad + ", 5)", x.setRegister(bad, 5), false);
            CHECKS.due("setRegister(1, " + bad + ")", x.setRegister(1, bad), false);
            CHECKS.due("register(" + bad + ")", x.register(bad), GateProcessor.BAD);
        }
        CHECKS.due("setRegister(4, 5)", x.setRegister(4, 5), false);
        CHECKS.due("setRegister(0, 256)", x.setRegister(0, 256), false);
        CHECKS.due("register(4)", x.register(4), GateProcessor.BAD);
        CHECKS.due("state after refusals of setRegister", Tools.state(x), Tools.BUSY_STATE);
    }

    private static void memory() {
        for (int a = 0; a < 16; a++) {
            GateProcessor x = Tools.busy();
            for (int v : new int[] {0, 1, 127, 128, 254, 255}) {
                CHECKS.due("setMemory(" + a + ", " + v + ")", x.setMemory(a, v), true);
                CHECKS.due("memory(" + a + ")", x.memory(a), v);
            }
            String want = Tools.BUSY_STATE.replace(" " + (100 + a), " 255");
            CHECKS.due("state after setMemory(" + a + ", 255)", Tools.state(x), want);
        }
        GateProcessor x = Tools.busy();
        for (int bad : Tools.FAR) {
            CHECKS.due("setMemory(" + bad + ", 5)", x.setMemory(bad, 5), false);
            CHECKS.due("setMemory(1, " + bad + ")", x.setMemory(1, bad), false);
            CHECKS.due("memory(" + bad + ")", x.memory(bad), GateProcessor.BAD);
        }
        CHECKS.due("setMemory(16, 5)", x.setMemory(16, 5), false);
        CHECKS.due("setMemory(0, 256)", x.setMemory(0, 256), false);
        CHECKS.due("memory(16)", x.memory(16), GateProcessor.BAD);
        CHECKS.due("state after refusals of setMemory", Tools.state(x), Tools.BUSY_STATE);
    }

    private static void same() {
        GateProcessor x = new GateProcessor();
        int[] values = {5, 255, 5, 0};
        for (int r = 0; r < 4; r++) {
            x.setRegister(r, values[r]);
        }
        for (int r = 0; r < 4; r++) {
            for (int s = 0; s < 4; s++) {
                CHECKS.due("same(" + r + ", " + s + ")", x.same(r, s), values[r] == values[s]);
            }
        }
        for (int bad : Tools.FAR) {
            CHECKS.due("same(" + bad + ", 0)", x.same(bad, 0), false);
            CHECKS.due("same(0, " + bad + ")", x.same(0, bad), false);
            CHECKS.due("same(" + bad + ", " + bad + ")", x.same(bad, bad), false);
        }
        // Register 3 holds 0 and 4 is the first number past the registers.
        CHECKS.due("same(3, 4)", x.same(3, 4), false);
        CHECKS.due("same(4, 3)", x.same(4, 3), false);
        CHECKS.due("same(4, 4)", x.same(4, 4), false);
    }

    private static void readingChangesNothing() {
        GateProcessor x = Tools.busy();
        String words = Tools.words(x);
        x.same(0, 1);
        CHECKS.due("state read once", Tools.state(x), Tools.BUSY_STATE);
        CHECKS.due("state read twice", Tools.state(x), Tools.BUSY_STATE);
        CHECKS.due("program read twice", Tools.words(x), words);
        CHECKS.due("IN port after reading", Tools.inPort(x), 77);
    }
}
