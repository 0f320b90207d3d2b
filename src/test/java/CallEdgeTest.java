import java.util.function.Function;

/** Promises 1 to 17 and the refusals of 18, sentence by sentence: each argument too small or too large, and the edges of the ranges. */
public final class CallEdgeTest {
    private static final Checks CHECKS = new Checks();
    private static final int BAD = GateProcessor.BAD;

    public static void main(String[] args) {
        newObject();
        programWrites();
        programPosition();
        programWord();
        word();
        resetClears();
        resetKeeps();
        inPort();
        setRegister();
        setMemory();
        cycleCounts();
        cycleHalted();
        cycleStops();
        cycleEngine();
        enginesAreAlike();
        halted();
        counter();
        register();
        memory();
        flags();
        link();
        out();
        outs();
        same();
        refusedChangesNothing();
        fiveHundredAndTwelveCalls();
        CHECKS.end();
    }

    private interface Call extends Function<GateProcessor, Object> {
    }

    /** Not halted and never to halt; registers, cells, flags, counter, link, ports and times are all other than 0. */
    private static GateProcessor running() {
        GateProcessor x = Tools.with(Tools.word(Tools.SHIFT, 2, 0, 0), Tools.word(Tools.CALL, 0, 0, 3));
        x.program(3, Tools.word(Tools.PORT, 3, 0, 1));
        for (int i = 4; i < 32; i++) {
            x.program(i, Tools.word(3 + i % 9, i % 4, i / 4 % 4, 37 * i % 256));
        }
        for (int a = 0; a < 16; a++) {
            x.setMemory(a, 11 * a + 5);
        }
        x.setRegister(0, 201);
        x.setRegister(1, 45);
        x.setRegister(2, 128);
        x.setRegister(3, 99);
        x.in(77);
        x.cycle(3, 0);
        x.setRegister(2, 14);
        return x;
    }

    /** The call is refused, and then the object is as one that was never asked. */
    private static void refused(String what, Call call, Object answer) {
        for (int kind = 0; kind < 2; kind++) {
            GateProcessor x = kind == 0 ? Tools.busy() : running();
            GateProcessor y = kind == 0 ? Tools.busy() : running();
            String at = what + (kind == 0 ? " when halted" : "");
            CHECKS.due(at, call.apply(x), answer);
            CHECKS.due("state after " + at, Tools.state(x), Tools.state(y));
            CHECKS.due("program after " + at, Tools.words(x), Tools.words(y));
            CHECKS.due("cycle(60, 0) after " + at, x.cycle(60, 0), y.cycle(60, 0));
            CHECKS.due("state later after " + at, Tools.state(x), Tools.state(y));
            CHECKS.due("IN port after " + at, Tools.inPort(x), 77);
        }
    }

    private static void newObject() {
        CHECKS.sentence("Promise 1: All 0, not halted.");
        GateProcessor x = new GateProcessor();
        CHECKS.due("state", Tools.state(x), Tools.NEW_STATE);
        CHECKS.due("program", Tools.words(x), "words" + " 0".repeat(32));
        CHECKS.due("IN port", Tools.inPort(x), 0);
    }

    private static void programWrites() {
        CHECKS.sentence("Promise 2: Writes a word of the program and answers true");
        for (int position = 0; position < 32; position++) {
            for (int w : new int[] {0, 1, 32767, 32768, 65534, 65535}) {
                GateProcessor x = Tools.busy();
                String[] want = Tools.words(x).split(" ");
                CHECKS.due("program(" + position + ", " + w + ")", x.program(position, w), true);
                want[1 + position] = "" + w;
                CHECKS.due("program then", Tools.words(x), String.join(" ", want));
                CHECKS.due("state then", Tools.state(x), Tools.BUSY_STATE);
                CHECKS.due("IN port then", Tools.inPort(x), 77);
            }
        }
    }

    private static void programPosition() {
        CHECKS.sentence("Promise 2: false, changing nothing, when position is not 0 .. 31");
        for (int position : Tools.outside(31)) {
            for (int w : new int[] {0, 5, 65535}) {
                refused("program(" + position + ", " + w + ")", x -> x.program(position, w), false);
            }
        }
    }

    private static void programWord() {
        CHECKS.sentence("Promise 2: false, changing nothing, when word is not 0 .. 65535");
        for (int w : Tools.outside(65535)) {
            for (int position : new int[] {-1, 0, 5, 31, 32}) {
                refused("program(" + position + ", " + w + ")", x -> x.program(position, w), false);
            }
        }
    }

    private static void word() {
        CHECKS.sentence("Promise 3: The word of the program at a position");
        GateProcessor x = new GateProcessor();
        for (int i = 0; i < 32; i++) {
            x.program(i, 65535 - 2000 * i);
        }
        for (int i = 0; i < 32; i++) {
            CHECKS.due("word(" + i + ")", x.word(i), 65535 - 2000 * i);
        }
        CHECKS.sentence("Promise 3: BAD when it is not 0 .. 31");
        for (int position : Tools.outside(31)) {
            refused("word(" + position + ")", y -> y.word(position), BAD);
        }
    }

    private static void resetClears() {
        CHECKS.sentence("Promise 4: Resets the processor: all 0 but the program and the IN port, not halted.");
        GateProcessor[] used = {new GateProcessor(), Tools.busy(), running(), Tools.at(31, 0), Tools.at(0, 1), Tools.at(0, 2)};
        for (int i = 0; i < used.length; i++) {
            used[i].reset();
            CHECKS.due("state of object " + i + " after reset", Tools.state(used[i]), Tools.NEW_STATE);
            used[i].reset();
            CHECKS.due("state of object " + i + " after reset twice", Tools.state(used[i]), Tools.NEW_STATE);
        }
        for (int r = 0; r < 4; r++) {
            GateProcessor x = new GateProcessor();
            x.setRegister(r, 255);
            x.reset();
            CHECKS.due("state after register " + r + " was 255", Tools.state(x), Tools.NEW_STATE);
        }
        for (int a = 0; a < 16; a++) {
            GateProcessor x = new GateProcessor();
            x.setMemory(a, 255);
            x.reset();
            CHECKS.due("state after cell " + a + " was 255", Tools.state(x), Tools.NEW_STATE);
        }
        // The number of times begins again: a wrap-around is counted from the reset on.
        GateProcessor x = Tools.with(Tools.word(Tools.PORT, 0, 0, 1));
        x.cycle(1, 0);
        x.reset();
        x.cycle(1, 0);
        CHECKS.due("outs() after one time before the reset and one after", x.outs(), 1);
    }

    private static void resetKeeps() {
        CHECKS.sentence("Promise 4: all 0 but the program and the IN port (these are kept)");
        for (int v : new int[] {0, 1, 255}) {
            GateProcessor x = new GateProcessor();
            for (int i = 0; i < 32; i++) {
                x.program(i, 65535 - i);
            }
            x.in(v);
            String words = Tools.words(x);
            x.reset();
            CHECKS.due("program after reset", Tools.words(x), words);
            CHECKS.due("IN port after reset", Tools.inPort(x), v);
        }
        GateProcessor halted = Tools.busy();
        String words = Tools.words(halted);
        halted.reset();
        CHECKS.due("program after HALT and reset", Tools.words(halted), words);
        CHECKS.due("IN port after HALT and reset", Tools.inPort(halted), 77);
    }

    private static void inPort() {
        CHECKS.sentence("Promise 5: Sets the IN port and answers true");
        for (int v : new int[] {0, 1, 127, 128, 254, 255}) {
            GateProcessor x = Tools.busy();
            CHECKS.due("in(" + v + ")", x.in(v), true);
            CHECKS.due("state after in(" + v + ")", Tools.state(x), Tools.BUSY_STATE);
            CHECKS.due("IN port after in(" + v + ")", Tools.inPort(x), v);
        }
        CHECKS.sentence("Promise 5: false when v is not 0 .. 255");
        for (int v : Tools.outside(255)) {
            refused("in(" + v + ")", x -> x.in(v), false);
        }
    }

    private static void setRegister() {
        CHECKS.sentence("Promise 6: Writes v to register r and answers true");
        for (int r = 0; r < 4; r++) {
            for (int v : new int[] {0, 1, 127, 128, 254, 255}) {
                GateProcessor x = Tools.busy();
                String[] values = {"16", "9", "0", "44"};
                values[r] = "" + v;
                CHECKS.due("setRegister(" + r + ", " + v + ")", x.setRegister(r, v), true);
                CHECKS.due("state then", Tools.state(x), Tools.BUSY_STATE.replace("16 9 0 44", String.join(" ", values)));
            }
        }
        CHECKS.sentence("Promise 6: false when r is not 0 .. 3");
        for (int r : Tools.outside(3)) {
            for (int v : new int[] {0, 5, 255}) {
                refused("setRegister(" + r + ", " + v + ")", x -> x.setRegister(r, v), false);
            }
        }
        CHECKS.sentence("Promise 6: false when v is not 0 .. 255");
        for (int v : Tools.outside(255)) {
            for (int r : new int[] {-1, 0, 1, 2, 3, 4}) {
                refused("setRegister(" + r + ", " + v + ")", x -> x.setRegister(r, v), false);
            }
        }
    }

    private static void setMemory() {
        CHECKS.sentence("Promise 7: Writes v to memory cell a and answers true");
        for (int a = 0; a < 16; a++) {
            for (int v : new int[] {0, 1, 127, 128, 254, 255}) {
                GateProcessor x = Tools.busy();
                CHECKS.due("setMemory(" + a + ", " + v + ")", x.setMemory(a, v), true);
                CHECKS.due("state then", Tools.state(x), Tools.BUSY_STATE.replace(" " + (100 + a), " " + v));
            }
        }
        CHECKS.sentence("Promise 7: false when a is not 0 .. 15");
        for (int a : Tools.outside(15)) {
            for (int v : new int[] {0, 5, 255}) {
                refused("setMemory(" + a + ", " + v + ")", x -> x.setMemory(a, v), false);
            }
        }
        CHECKS.sentence("Promise 7: false when v is not 0 .. 255");
        for (int v : Tools.outside(255)) {
            for (int a : new int[] {-1, 0, 7, 15, 16}) {
                refused("setMemory(" + a + ", " + v + ")", x -> x.setMemory(a, v), false);
            }
        }
    }

    /** A count of the cycles done: register 0 grows by 1 in every second cycle, and it never halts. */
    private static GateProcessor endless() {
        GateProcessor x = new GateProcessor();
        for (int i = 0; i < 32; i += 2) {
            x.program(i, Tools.word(Tools.ADD, 0, 1, 0));
            x.program(i + 1, Tools.word(Tools.LOAD, 1, 0, 1));
        }
        x.setRegister(1, 1);
        return x;
    }

    private static void doesCycles(int n, int want) {
        for (int engine = 0; engine < 4; engine++) {
            GateProcessor x = endless();
            CHECKS.due("cycle(" + n + ", " + engine + ")", x.cycle(n, engine), want);
            CHECKS.due("register(0) after cycle(" + n + ", " + engine + ")", x.register(0), (want + 1) / 2);
            CHECKS.due("counter() after cycle(" + n + ", " + engine + ")", x.counter(), want % 32);
            CHECKS.due("halted() after cycle(" + n + ", " + engine + ")", x.halted(), false);
        }
    }

    private static void cycleCounts() {
        CHECKS.sentence("Promise 8: Does at most n cycles");
        for (int n = 0; n <= 60; n++) {
            doesCycles(n, n);
        }
        CHECKS.sentence("Promise 8: below 0 counts as 0");
        for (int n : new int[] {-1, -2, -59, -60, -61, -256, Integer.MIN_VALUE + 1, Integer.MIN_VALUE}) {
            doesCycles(n, 0);
        }
        CHECKS.sentence("Promise 8: above 60 as 60");
        for (int n : new int[] {61, 62, 63, 64, 120, 255, 256, 1000, Integer.MAX_VALUE - 1, Integer.MAX_VALUE}) {
            doesCycles(n, 60);
        }
    }

    private static void cycleHalted() {
        CHECKS.sentence("Promise 8: none when it is halted");
        for (int n : new int[] {Integer.MIN_VALUE, -1, 0, 1, 2, 60, 61, Integer.MAX_VALUE}) {
            for (int engine = 0; engine < 4; engine++) {
                GateProcessor x = Tools.busy();
                x.program(8, Tools.word(Tools.LOAD, 0, 0, 200));
                CHECKS.due("cycle(" + n + ", " + engine + ")", x.cycle(n, engine), 0);
                CHECKS.due("state after it", Tools.state(x), Tools.BUSY_STATE);
            }
        }
    }

    private static void cycleStops() {
        CHECKS.sentence("Promise 8: stopping when it halts, and answers how many were done (that of the HALT too)");
        for (int position = 0; position < 32; position++) {
            for (int n : new int[] {0, position, position + 1, position + 2, 60, 61}) {
                GateProcessor x = endless();
                x.program(position, Tools.HALT);
                boolean reached = n > position;
                String at = " of cycle(" + n + ", 1) with a HALT at " + position;
                CHECKS.due("answer" + at, x.cycle(n, 1), reached ? position + 1 : n);
                CHECKS.due("halted()" + at, x.halted(), reached);
                CHECKS.due("counter()" + at, x.counter(), reached ? position : n);
                CHECKS.due("register(0)" + at, x.register(0), ((reached ? position : n) + 1) / 2);
                CHECKS.due("next answer" + at, x.cycle(60, 2), reached ? 0 : position - n + 1);
            }
        }
        for (int due = 58; due <= 63; due++) {
            GateProcessor x = haltAsCycle(due);
            CHECKS.due("cycle(61, 3) with a HALT as cycle " + due, x.cycle(61, 3), due > 60 ? 60 : due);
            CHECKS.due("halted() with a HALT as cycle " + due, x.halted(), due <= 60);
            CHECKS.due("cycle(60, 3) again with a HALT as cycle " + due, x.cycle(60, 3), due > 60 ? due - 60 : 0);
            CHECKS.due("halted() at last with a HALT as cycle " + due, x.halted(), true);
        }
    }

    /** A loop of SUB and BRANCH, 28 times, takes 56 cycles; the words from 2 on are done once each. */
    private static GateProcessor haltAsCycle(int cycle) {
        GateProcessor x = endless();
        x.program(0, Tools.word(Tools.SUB, 2, 3, 0));
        x.program(1, Tools.word(Tools.BRANCH, 1, 0, 0));
        x.setRegister(2, 28);
        x.setRegister(3, 1);
        x.program(2 + cycle - 57, Tools.HALT);
        return x;
    }

    private static void cycleEngine() {
        CHECKS.sentence("Promise 8: BAD, changing nothing, when engine is not 0 .. 3");
        for (int engine : Tools.outside(3)) {
            for (int n : new int[] {-1, 0, 1, 60, 61}) {
                refused("cycle(" + n + ", " + engine + ")", x -> x.cycle(n, engine), BAD);
            }
        }
    }

    private static void enginesAreAlike() {
        CHECKS.sentence("Promise 8: The engine, of four that work the circuits out, does not matter for what is done.");
        for (int w = 0; w < 65536; w += 7) {
            String first = "";
            for (int engine = 0; engine < 4; engine++) {
                GateProcessor x = running();
                x.program(x.counter(), w);
                String got = x.cycle(1, engine) + " " + Tools.state(x);
                first = engine == 0 ? got : first;
                CHECKS.due("word " + w + " by engine " + engine, got, first);
            }
        }
    }

    private static void halted() {
        CHECKS.sentence("Promise 9: Whether it is halted.");
        GateProcessor x = Tools.with(Tools.word(Tools.LOAD, 0, 0, 1), Tools.HALT);
        CHECKS.due("halted() at first", x.halted(), false);
        x.cycle(1, 0);
        CHECKS.due("halted() before the HALT", x.halted(), false);
        x.cycle(0, 0);
        CHECKS.due("halted() after no cycle", x.halted(), false);
        x.cycle(1, 0);
        CHECKS.due("halted() after the HALT", x.halted(), true);
        x.program(1, Tools.word(Tools.LOAD, 0, 0, 1));
        CHECKS.due("halted() after the HALT is written over", x.halted(), true);
        x.reset();
        CHECKS.due("halted() after reset", x.halted(), false);
    }

    private static void counter() {
        CHECKS.sentence("Promise 10: The counter.");
        GateProcessor x = endless();
        for (int i = 0; i <= 65; i++) {
            CHECKS.due("counter() after " + i + " cycles", x.counter(), i % 32);
            x.cycle(1, 0);
        }
    }

    private static void register() {
        CHECKS.sentence("Promise 11: Register r; BAD when it is not 0 .. 3.");
        GateProcessor x = Tools.busy();
        int[] values = {16, 9, 0, 44};
        for (int r = 0; r < 4; r++) {
            CHECKS.due("register(" + r + ")", x.register(r), values[r]);
        }
        for (int r : Tools.outside(3)) {
            refused("register(" + r + ")", y -> y.register(r), BAD);
        }
    }

    private static void memory() {
        CHECKS.sentence("Promise 12: Memory cell a; BAD when it is not 0 .. 15.");
        GateProcessor x = Tools.busy();
        for (int a = 0; a < 16; a++) {
            CHECKS.due("memory(" + a + ")", x.memory(a), 100 + a);
        }
        for (int a : Tools.outside(15)) {
            refused("memory(" + a + ")", y -> y.memory(a), BAD);
        }
    }

    private static void flags() {
        CHECKS.sentence("Promise 13: The flags: ZERO + 2 * CARRY.");
        int[][] sums = {{1, 1, 0}, {0, 0, 1}, {255, 2, 2}, {255, 1, 3}};
        for (int[] sum : sums) {
            GateProcessor x = Tools.with(Tools.word(Tools.ADD, 0, 1, 0));
            x.setRegister(0, sum[0]);
            x.setRegister(1, sum[1]);
            CHECKS.due("flags() before the sum of " + sum[0] + " and " + sum[1], x.flags(), 0);
            x.cycle(1, 0);
            CHECKS.due("flags() after the sum of " + sum[0] + " and " + sum[1], x.flags(), sum[2]);
        }
    }

    private static void link() {
        CHECKS.sentence("Promise 14: The link.");
        for (int position : new int[] {0, 29, 30, 31}) {
            GateProcessor x = Tools.at(position, 0);
            CHECKS.due("link() before a CALL at " + position, x.link(), 0);
            Tools.doOne(x, Tools.word(Tools.CALL, 0, 0, 9));
            CHECKS.due("link() after a CALL at " + position, x.link(), (position + 1) % 32);
        }
    }

    private static void out() {
        CHECKS.sentence("Promise 15: The OUT port.");
        GateProcessor x = Tools.at(5, 0);
        x.in(12);
        for (int v : new int[] {255, 0, 128, 1}) {
            x.setRegister(2, v);
            Tools.doOne(x, Tools.word(Tools.PORT, 2, 0, 1));
            CHECKS.due("out() after " + v, x.out(), v);
            // What is put out stays there, whatever becomes of the register and of the IN port.
            Tools.doOne(x, Tools.word(Tools.PORT, 2, 0, 0));
            CHECKS.due("out() after " + v + " and an IN", x.out(), v);
            CHECKS.due("register(2) after an IN", x.register(2), 12);
        }
    }

    private static void outs() {
        CHECKS.sentence("Promise 16: The number of times something was put out, modulo 256.");
        GateProcessor x = new GateProcessor();
        for (int i = 0; i < 32; i++) {
            x.program(i, Tools.word(Tools.PORT, 0, 0, 1));
        }
        CHECKS.due("outs() at first", x.outs(), 0);
        for (int i = 0; i < 5; i++) {
            x.cycle(50, i % 4);
            CHECKS.due("outs() after " + 50 * (i + 1) + " times", x.outs(), 50 * (i + 1));
        }
        for (int i = 251; i <= 259; i++) {
            x.cycle(1, 0);
            CHECKS.due("outs() after " + i + " times", x.outs(), i < 256 ? i : i - 256);
        }
        // Over the edge in the middle of one call as well: 259 + 4 * 60 = 499, and 20 more.
        for (int i = 0; i < 4; i++) {
            x.cycle(60, 0);
        }
        CHECKS.due("outs() after 499 times", x.outs(), 243);
        x.cycle(20, 0);
        CHECKS.due("outs() after 519 times", x.outs(), 7);
    }

    private static void same() {
        CHECKS.sentence("Promise 17: Whether both registers r and s hold the same");
        for (int v : new int[] {0, 1, 254, 255}) {
            for (int r = 0; r < 4; r++) {
                for (int s = 0; s < 4; s++) {
                    GateProcessor x = new GateProcessor();
                    for (int i = 0; i < 4; i++) {
                        x.setRegister(i, 100 + i);
                    }
                    CHECKS.due("same(" + r + ", " + s + ") of others", x.same(r, s), r == s);
                    x.setRegister(r, v);
                    x.setRegister(s, v);
                    CHECKS.due("same(" + r + ", " + s + ") of " + v, x.same(r, s), true);
                    x.setRegister(r, v ^ 128);
                    CHECKS.due("same(" + r + ", " + s + ") with another bit", x.same(r, s), r == s);
                }
            }
        }
        CHECKS.sentence("Promise 17: false when one is not 0 .. 3");
        for (int bad : Tools.outside(3)) {
            // In a new object all registers hold 0, so that nothing but the range makes it false.
            CHECKS.due("same(0, " + bad + ") of a new object", new GateProcessor().same(0, bad), false);
            CHECKS.due("same(" + bad + ", 3) of a new object", new GateProcessor().same(bad, 3), false);
            CHECKS.due("same(" + bad + ", " + bad + ") of a new object", new GateProcessor().same(bad, bad), false);
            for (int r = 0; r < 4; r++) {
                int good = r;
                refused("same(" + good + ", " + bad + ")", x -> x.same(good, bad), false);
                refused("same(" + bad + ", " + good + ")", x -> x.same(bad, good), false);
            }
            refused("same(" + bad + ", " + bad + ")", x -> x.same(bad, bad), false);
        }
    }

    private static void refusedChangesNothing() {
        CHECKS.sentence("Promise 18: a call that is refused (by a code below 0 that is named, or by false) changes nothing.");
        refused("program(32, 7)", x -> x.program(32, 7), false);
        refused("program(-1, 7)", x -> x.program(-1, 7), false);
        refused("program(0, 65536)", x -> x.program(0, 65536), false);
        refused("program(31, -1)", x -> x.program(31, -1), false);
        refused("word(32)", x -> x.word(32), BAD);
        refused("word(-1)", x -> x.word(-1), BAD);
        refused("in(256)", x -> x.in(256), false);
        refused("in(-1)", x -> x.in(-1), false);
        refused("setRegister(4, 7)", x -> x.setRegister(4, 7), false);
        refused("setRegister(-1, 7)", x -> x.setRegister(-1, 7), false);
        refused("setRegister(0, 256)", x -> x.setRegister(0, 256), false);
        refused("setRegister(3, -1)", x -> x.setRegister(3, -1), false);
        refused("setMemory(16, 7)", x -> x.setMemory(16, 7), false);
        refused("setMemory(-1, 7)", x -> x.setMemory(-1, 7), false);
        refused("setMemory(0, 256)", x -> x.setMemory(0, 256), false);
        refused("setMemory(15, -1)", x -> x.setMemory(15, -1), false);
        refused("cycle(1, 4)", x -> x.cycle(1, 4), BAD);
        refused("cycle(1, -1)", x -> x.cycle(1, -1), BAD);
        refused("register(4)", x -> x.register(4), BAD);
        refused("register(-1)", x -> x.register(-1), BAD);
        refused("memory(16)", x -> x.memory(16), BAD);
        refused("memory(-1)", x -> x.memory(-1), BAD);
        refused("same(0, 4)", x -> x.same(0, 4), false);
        refused("same(-1, 0)", x -> x.same(-1, 0), false);
        // Registers that differ are answered false as well.
        refused("same(0, 1)", x -> x.same(0, 1), false);
    }

    private static void fiveHundredAndTwelveCalls() {
        CHECKS.sentence("An object is used for at most 512 calls after it has been made");
        GateProcessor x = endless();
        // endless() has made 33 calls; 478 more and the one that is looked at make 512.
        for (int i = 0; i < 478; i++) {
            x.cycle(60, i % 4);
        }
        // 28680 cycles are 14340 sums, modulo 256 that is 4.
        CHECKS.due("register(0) as call 512", x.register(0), 4);
    }
}
