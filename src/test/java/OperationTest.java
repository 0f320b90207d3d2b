/** The terms, promises 10 and 13 to 16, and the MOVE and SHIFT of promise 18: single instructions with answers worked out by hand. */
public final class OperationTest {
    private static final Checks CHECKS = new Checks();

    public static void main(String[] args) {
        loadAndMove();
        sums();
        bits();
        shifts();
        fetchAndStore();
        jumpAndBranch();
        calls();
        ports();
        CHECKS.end();
    }

    /** One instruction with d = 1, s = 2 (or another s), from the flags that are given (ZERO + 2 * CARRY). */
    private static GateProcessor after(int op, int m, int r, int s, int flags) {
        GateProcessor x = withFlags(flags);
        x.setRegister(1, r);
        x.setRegister(2, s);
        x.program(x.counter(), Tools.word(op, 1, 2, m));
        x.cycle(1, 0);
        return x;
    }

    /** The counter stands at 2 and all registers hold 0. */
    private static GateProcessor withFlags(int flags) {
        GateProcessor x = new GateProcessor();
        int carry = flags / 2;
        int zero = flags % 2;
        // SHIFT to the left gives every pair of flags: CARRY is bit 7, ZERO says that nothing else is left.
        x.setRegister(0, 128 * carry + 1 - zero);
        x.program(0, Tools.word(Tools.SHIFT, 0, 0, 0));
        x.program(1, Tools.word(Tools.LOAD, 0, 0, 0));
        x.cycle(2, 0);
        CHECKS.due("flags() made ready", x.flags(), flags);
        return x;
    }

    private static void gives(String name, int op, int m, int r, int s, int flags, int wantR, int wantFlags) {
        GateProcessor x = after(op, m, r, s, flags);
        String at = name + " m " + m + " of " + r + " and " + s + " with flags " + flags;
        String want = "registers 0 " + wantR + " " + s + " 0, memory" + " 0".repeat(16)
            + ", flags " + wantFlags + ", counter 3, link 0, out 0, outs 0, halted false";
        CHECKS.due(at, Tools.state(x), want);
    }

    private static void loadAndMove() {
        for (int flags = 0; flags < 4; flags++) {
            gives("LOAD", Tools.LOAD, 0, 9, 8, flags, 0, flags);
            gives("LOAD", Tools.LOAD, 255, 9, 8, flags, 255, flags);
            gives("LOAD", Tools.LOAD, 128, 9, 8, flags, 128, flags);
            gives("MOVE", Tools.MOVE, 0, 9, 0, flags, 0, flags);
            gives("MOVE", Tools.MOVE, 252, 9, 200, flags, 200, flags);
            gives("MOVE", Tools.MOVE, 1, 7, 9, flags, 63, flags);
            gives("MOVE", Tools.MOVE, 253, 16, 16, flags, 0, flags);
            gives("MOVE", Tools.MOVE, 5, 255, 255, flags, 1, flags);
            gives("MOVE", Tools.MOVE, 2, 255, 255, flags, 254, flags);
            gives("MOVE", Tools.MOVE, 254, 16, 16, flags, 1, flags);
            gives("MOVE", Tools.MOVE, 2, 15, 17, flags, 0, flags);
            gives("MOVE", Tools.MOVE, 6, 200, 100, flags, 78, flags);
            gives("MOVE", Tools.MOVE, 3, 9, 1, flags, 128, flags);
            gives("MOVE", Tools.MOVE, 255, 9, 128, flags, 1, flags);
            gives("MOVE", Tools.MOVE, 7, 9, 0b00110101, flags, 0b10101100, flags);
            gives("MOVE", Tools.MOVE, 3, 9, 0, flags, 0, flags);
        }
    }

    private static void sums() {
        for (int flags = 0; flags < 4; flags++) {
            int carry = flags / 2;
            gives("ADD", Tools.ADD, 77, 1, 2, flags, 3, 0);
            gives("ADD", Tools.ADD, 0, 0, 0, flags, 0, 1);
            gives("ADD", Tools.ADD, 0, 255, 0, flags, 255, 0);
            gives("ADD", Tools.ADD, 0, 255, 1, flags, 0, 3);
            gives("ADD", Tools.ADD, 0, 255, 255, flags, 254, 2);
            gives("ADDC", Tools.ADDC, 77, 1, 2, flags, 3 + carry, 0);
            gives("ADDC", Tools.ADDC, 0, 0, 0, flags, carry, 1 - carry);
            gives("ADDC", Tools.ADDC, 0, 255, 0, flags, carry == 1 ? 0 : 255, 3 * carry);
            gives("ADDC", Tools.ADDC, 0, 255, 255, flags, 254 + carry, 2);
            gives("SUB", Tools.SUB, 77, 9, 2, flags, 7, 0);
            gives("SUB", Tools.SUB, 0, 9, 9, flags, 0, 1);
            gives("SUB", Tools.SUB, 0, 9, 10, flags, 255, 2);
            gives("SUB", Tools.SUB, 0, 0, 255, flags, 1, 2);
            gives("SUB", Tools.SUB, 0, 0, 0, flags, 0, 1);
        }
    }

    private static void bits() {
        for (int flags = 0; flags < 4; flags++) {
            int carry = flags - flags % 2;
            gives("AND", Tools.AND, 77, 0b1100, 0b1010, flags, 0b1000, carry);
            gives("AND", Tools.AND, 0, 0b0101, 0b1010, flags, 0, carry + 1);
            gives("OR", Tools.OR, 77, 0b1100, 0b1010, flags, 0b1110, carry);
            gives("OR", Tools.OR, 0, 0, 0, flags, 0, carry + 1);
            gives("XOR", Tools.XOR, 77, 0b1100, 0b1010, flags, 0b0110, carry);
            gives("XOR", Tools.XOR, 0, 255, 255, flags, 0, carry + 1);
        }
    }

    private static void shifts() {
        for (int flags = 0; flags < 4; flags++) {
            int carry = flags / 2;
            gives("SHIFT", Tools.SHIFT, 0, 3, 9, flags, 6, 0);
            gives("SHIFT", Tools.SHIFT, 252, 128, 9, flags, 0, 3);
            gives("SHIFT", Tools.SHIFT, 4, 255, 9, flags, 254, 2);
            gives("SHIFT", Tools.SHIFT, 0, 0, 9, flags, 0, 1);
            gives("SHIFT", Tools.SHIFT, 1, 6, 9, flags, 3, 0);
            gives("SHIFT", Tools.SHIFT, 253, 1, 9, flags, 0, 3);
            gives("SHIFT", Tools.SHIFT, 5, 255, 9, flags, 127, 2);
            gives("SHIFT", Tools.SHIFT, 1, 0, 9, flags, 0, 1);
            gives("SHIFT", Tools.SHIFT, 2, 3, 9, flags, 6 + carry, 0);
            gives("SHIFT", Tools.SHIFT, 254, 128, 9, flags, carry, 3 - carry);
            gives("SHIFT", Tools.SHIFT, 6, 0, 9, flags, carry, 1 - carry);
            gives("SHIFT", Tools.SHIFT, 3, 6, 9, flags, 3 + 128 * carry, 0);
            gives("SHIFT", Tools.SHIFT, 255, 1, 9, flags, 128 * carry, 3 - carry);
            gives("SHIFT", Tools.SHIFT, 7, 0, 9, flags, 128 * carry, 1 - carry);
        }
    }

    private static void fetchAndStore() {
        int[][] cases = {{0, 0, 0}, {0, 15, 15}, {15, 0, 15}, {15, 1, 0}, {255, 255, 14}, {200, 100, 12}, {8, 9, 1}};
        for (int flags = 0; flags < 4; flags++) {
            for (int[] c : cases) {
                String at = " with S " + c[0] + " and m " + c[1] + " and flags " + flags;
                GateProcessor x = withFlags(flags);
                for (int a = 0; a < 16; a++) {
                    x.setMemory(a, 100 + a);
                }
                x.setRegister(1, 33);
                x.setRegister(2, c[0]);
                x.program(2, Tools.word(Tools.FETCH, 1, 2, c[1]));
                x.cycle(1, 0);
                CHECKS.due("FETCH" + at, x.register(1), 100 + c[2]);
                CHECKS.due("flags() after FETCH" + at, x.flags(), flags);
                CHECKS.due("S after FETCH" + at, x.register(2), c[0]);
                CHECKS.due("memory(" + c[2] + ") after FETCH" + at, x.memory(c[2]), 100 + c[2]);
                x.setRegister(1, 33);
                x.program(3, Tools.word(Tools.STORE, 1, 2, c[1]));
                x.cycle(1, 0);
                for (int a = 0; a < 16; a++) {
                    CHECKS.due("memory(" + a + ") after STORE" + at, x.memory(a), a == c[2] ? 33 : 100 + a);
                }
                CHECKS.due("R after STORE" + at, x.register(1), 33);
                CHECKS.due("flags() after STORE" + at, x.flags(), flags);
                CHECKS.due("counter() after STORE" + at, x.counter(), 4);
            }
        }
        // d = s: the cell is told by the register before the instruction.
        GateProcessor x = Tools.with(Tools.word(Tools.STORE, 3, 3, 1), Tools.word(Tools.FETCH, 3, 3, 2));
        x.setRegister(3, 4);
        x.setMemory(6, 222);
        x.cycle(2, 0);
        CHECKS.due("memory(5) after STORE with d = s", x.memory(5), 4);
        CHECKS.due("register(3) after FETCH with d = s", x.register(3), 222);
    }

    private static void jumpAndBranch() {
        for (int m = 0; m < 256; m++) {
            GateProcessor x = Tools.with(Tools.word(Tools.JUMP, 3, 3, m));
            x.cycle(1, 0);
            CHECKS.due("counter() after JUMP " + m, x.counter(), m % 32);
            CHECKS.due("link() after JUMP " + m, x.link(), 0);
        }
        boolean[][] taken = {
            {false, true, false, true}, {true, false, false, true}, {false, true, true, false}, {true, false, true, false}};
        for (int flags = 0; flags < 4; flags++) {
            for (int d = 0; d < 4; d++) {
                for (int m : new int[] {0, 2, 3, 31, 32, 70, 128, 255}) {
                    GateProcessor x = withFlags(flags);
                    x.program(2, Tools.word(Tools.BRANCH, d, 3, m));
                    CHECKS.due("cycle(1, 0) of BRANCH", x.cycle(1, 0), 1);
                    String want = Tools.NEW_STATE.replace("flags 0", "flags " + flags)
                        .replace("counter 0", "counter " + (taken[flags][d] ? m % 32 : 3));
                    CHECKS.due("BRANCH d " + d + " m " + m + " with flags " + flags, Tools.state(x), want);
                }
            }
        }
        GateProcessor x = Tools.with(Tools.word(Tools.JUMP, 0, 0, 31));
        x.program(31, Tools.word(Tools.BRANCH, 0, 0, 9));
        x.cycle(2, 0);
        CHECKS.due("counter() after a BRANCH at 31 that is not taken", x.counter(), 0);
    }

    private static void calls() {
        for (int m = 0; m < 256; m++) {
            GateProcessor x = Tools.with(Tools.word(Tools.CALL, 0, 0, 7));
            x.program(7, Tools.word(Tools.CALL, 2, 1, m));
            x.cycle(2, 0);
            CHECKS.due("counter() after CALL " + m, x.counter(), m < 128 ? m % 32 : 1);
            CHECKS.due("link() after CALL " + m, x.link(), m < 128 ? 8 : 1);
            CHECKS.due("flags() after CALL " + m, x.flags(), 0);
        }
        GateProcessor x = Tools.with(Tools.word(Tools.JUMP, 0, 0, 31));
        x.program(31, Tools.word(Tools.CALL, 0, 0, 30));
        x.program(30, Tools.word(Tools.JUMP, 0, 0, 29));
        x.cycle(2, 0);
        CHECKS.due("link() after CALL at 31", x.link(), 0);
        CHECKS.due("counter() after CALL at 31", x.counter(), 30);
        GateProcessor back = Tools.with(0, 0, 0);
        back.program(0, Tools.word(Tools.JUMP, 0, 0, 4));
        back.program(4, Tools.word(Tools.CALL, 0, 0, 255));
        back.cycle(2, 0);
        CHECKS.due("counter() after going back to a link never set", back.counter(), 0);
    }

    private static void ports() {
        for (int flags = 0; flags < 4; flags++) {
            for (int m = 0; m < 256; m++) {
                GateProcessor x = withFlags(flags);
                x.in(201);
                x.setRegister(1, 33);
                x.program(2, Tools.word(Tools.PORT, 1, 2, m));
                x.cycle(1, 0);
                String at = " after PORT " + m + " with flags " + flags;
                CHECKS.due("register(1)" + at, x.register(1), m % 2 == 0 ? 201 : 33);
                CHECKS.due("out()" + at, x.out(), m % 2 == 0 ? 0 : 33);
                CHECKS.due("outs()" + at, x.outs(), m % 2);
                CHECKS.due("flags()" + at, x.flags(), flags);
                CHECKS.due("counter()" + at, x.counter(), 3);
            }
        }
        GateProcessor x = new GateProcessor();
        for (int i = 0; i < 32; i++) {
            x.program(i, Tools.word(Tools.PORT, 0, 0, 1));
        }
        for (int i = 0; i < 5; i++) {
            x.cycle(50, 0);
        }
        for (int i = 251; i <= 260; i++) {
            x.setRegister(0, i % 256);
            x.cycle(1, 0);
            CHECKS.due("outs() after " + i + " times", x.outs(), i % 256);
            CHECKS.due("out() after " + i + " times", x.out(), i % 256);
        }
    }
}
