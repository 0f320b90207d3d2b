/** The document's terms, and the MOVE and SHIFT of promise 18, sentence by sentence: the edges that each one names. */
public final class TermsEdgeTest {
    private static final Checks CHECKS = new Checks();
    private static final int R = 1;
    private static final int S = 2;

    public static void main(String[] args) {
        registersAndCells();
        flagsAreBits();
        counterRange();
        linkRange();
        portsAreBytes();
        timesPutOut();
        programAtFirst();
        partsOfAWord();
        wordAtTheCounter();
        counterGoesOn();
        beforeTheInstruction();
        bytesAreTakenModulo();
        halt();
        load();
        move();
        add();
        addWithCarry();
        subtract();
        and();
        or();
        xor();
        shift();
        fetch();
        store();
        jump();
        branch();
        call();
        goBack();
        portIn();
        portOut();
        carryBecomes();
        zeroBecomes();
        flagsStay();
        haltedDoesNothing();
        CHECKS.end();
    }

    /** The state that is due after one instruction at position 5 that does no more than to go on. */
    private static Model wentOn(int flags) {
        Model y = new Model();
        y.counter = 6;
        y.zero = flags % 2;
        y.carry = flags / 2;
        return y;
    }

    /** One instruction at position 5 with d = 1 and s = 2; only R and the flags may be other than before. */
    private static void gives(int op, int m, int r, int s, int flags, int wantR, int wantFlags) {
        GateProcessor x = Tools.at(5, flags);
        x.setRegister(R, r);
        x.setRegister(S, s);
        Tools.doOne(x, Tools.word(op, R, S, m));
        Model y = wentOn(wantFlags);
        y.register[R] = wantR;
        y.register[S] = s;
        CHECKS.due("m " + m + ", R " + r + ", S " + s + ", flags " + flags, Tools.state(x), y.state());
    }

    private static void registersAndCells() {
        CHECKS.sentence("The processor has REGISTERS 0 .. 3 and MEMORY cells 0 .. 15 (bytes, 0 .. 255)");
        for (int d = 0; d < 4; d++) {
            for (int v : new int[] {0, 255}) {
                GateProcessor x = Tools.at(5, 0);
                x.setRegister(d, 17);
                Tools.doOne(x, Tools.word(Tools.LOAD, d, 0, v));
                Model y = wentOn(0);
                y.register[d] = v;
                CHECKS.due("register " + d + " becomes " + v, Tools.state(x), y.state());
            }
        }
        for (int a = 0; a < 16; a++) {
            for (int v : new int[] {0, 255}) {
                GateProcessor x = Tools.at(5, 0);
                x.setMemory(a, 17);
                x.setRegister(3, v);
                Tools.doOne(x, Tools.word(Tools.STORE, 3, 0, a));
                Model y = wentOn(0);
                y.register[3] = v;
                y.memory[a] = v;
                CHECKS.due("cell " + a + " becomes " + v, Tools.state(x), y.state());
            }
        }
    }

    private static void flagsAreBits() {
        CHECKS.sentence("a ZERO flag and a CARRY flag (0 or 1)");
        // ADDC of 255 and 255 again and again: a flag that grew would be told by flags() and by the next sum.
        GateProcessor x = Tools.at(5, 2);
        x.setRegister(S, 255);
        for (int i = 0; i < 4; i++) {
            x.setRegister(R, 255);
            Tools.doOne(x, Tools.word(Tools.ADDC, R, S, 0));
            CHECKS.due("register(1) after " + (i + 1) + " sums", x.register(R), 255);
            CHECKS.due("flags() after " + (i + 1) + " sums", x.flags(), 2);
        }
        for (int i = 0; i < 4; i++) {
            Tools.doOne(x, Tools.word(Tools.XOR, R, R, 0));
            CHECKS.due("flags() after " + (i + 1) + " times 0", x.flags(), 3);
        }
    }

    private static void counterRange() {
        CHECKS.sentence("a COUNTER (0 .. 31)");
        for (int position = 0; position < 32; position++) {
            GateProcessor x = Tools.at(position, 0);
            Model y = new Model();
            y.counter = position;
            CHECKS.due("the counter brought to " + position, Tools.state(x), y.state());
        }
    }

    private static void linkRange() {
        CHECKS.sentence("a LINK (0 .. 31)");
        for (int position = 0; position < 32; position++) {
            GateProcessor x = Tools.at(position, 0);
            Tools.doOne(x, Tools.word(Tools.CALL, 0, 0, 11));
            Model y = new Model();
            y.counter = 11;
            y.link = position == 31 ? 0 : position + 1;
            CHECKS.due("CALL at " + position, Tools.state(x), y.state());
        }
    }

    private static void portsAreBytes() {
        CHECKS.sentence("an IN port and an OUT port (bytes)");
        for (int v : new int[] {0, 1, 127, 128, 254, 255}) {
            GateProcessor x = Tools.at(5, 0);
            x.in(v);
            Tools.doOne(x, Tools.word(Tools.PORT, R, 0, 0));
            Tools.doOne(x, Tools.word(Tools.PORT, R, 0, 1));
            Model y = wentOn(0);
            y.counter = 7;
            y.register[R] = v;
            y.out = v;
            y.outs = 1;
            CHECKS.due("in and out of " + v, Tools.state(x), y.state());
        }
    }

    private static void timesPutOut() {
        CHECKS.sentence("the number of times something was put out, modulo 256");
        GateProcessor x = Tools.with(Tools.word(Tools.PORT, R, 0, 1), Tools.word(Tools.JUMP, 0, 0, 0));
        x.setRegister(R, 255);
        for (int i = 0; i < 8; i++) {
            x.cycle(60, 0);
        }
        CHECKS.due("outs() after 240 times", x.outs(), 240);
        x.cycle(30, 0);
        CHECKS.due("outs() after 255 times", x.outs(), 255);
        x.cycle(2, 0);
        CHECKS.due("outs() after 256 times", x.outs(), 0);
        CHECKS.due("out() after 256 times", x.out(), 255);
        x.cycle(2, 0);
        CHECKS.due("outs() after 257 times", x.outs(), 1);
        for (int i = 0; i < 17; i++) {
            x.cycle(30, 0);
        }
        CHECKS.due("outs() after 512 times", x.outs(), 0);
        CHECKS.due("state after 512 times", Tools.state(x),
            "registers 0 255 0 0, memory" + " 0".repeat(16) + ", flags 0, counter 0, link 0, out 255, outs 0, halted false");
    }

    private static void programAtFirst() {
        CHECKS.sentence("The PROGRAM has 32 words at the positions 0 .. 31, all 0 at first");
        GateProcessor x = new GateProcessor();
        for (int i = 0; i < 32; i++) {
            CHECKS.due("word(" + i + ")", x.word(i), 0);
        }
        for (int i = 0; i < 32; i++) {
            GateProcessor y = Tools.at(i, 0);
            CHECKS.due("cycle(60, 0) at " + i, y.cycle(60, 0), 1);
            CHECKS.due("halted() at " + i, y.halted(), true);
        }
    }

    private static void partsOfAWord() {
        CHECKS.sentence("a word is 0 .. 65535, written op + 16 * d + 64 * s + 256 * m: op 0 .. 15, d and s registers, m a byte");
        GateProcessor least = Tools.at(5, 0);
        CHECKS.due("cycle(1, 0) of the word 0", Tools.doOne(least, 0), 1);
        CHECKS.due("halted() after the word 0", least.halted(), true);
        GateProcessor most = Tools.at(5, 0);
        most.setRegister(3, 99);
        Tools.doOne(most, 65535);
        Model y = wentOn(0);
        y.register[3] = 99;
        y.out = 99;
        y.outs = 1;
        CHECKS.due("state after the word 65535", Tools.state(most), y.state());
        // 2 + 16 * d + 64 * s is the MOVE from s to d.
        for (int d = 0; d < 4; d++) {
            for (int s = 0; s < 4; s++) {
                GateProcessor x = Tools.at(5, 0);
                Model z = wentOn(0);
                for (int r = 0; r < 4; r++) {
                    x.setRegister(r, 60 + r);
                    z.register[r] = 60 + r;
                }
                Tools.doOne(x, 2 + 16 * d + 64 * s);
                z.register[d] = 60 + s;
                CHECKS.due("state after the word " + (2 + 16 * d + 64 * s), Tools.state(x), z.state());
            }
        }
        for (int m : new int[] {0, 1, 127, 128, 255}) {
            GateProcessor x = Tools.at(5, 0);
            Tools.doOne(x, 1 + 256 * m);
            CHECKS.due("register(0) after the word " + (1 + 256 * m), x.register(0), m);
        }
    }

    private static void wordAtTheCounter() {
        CHECKS.sentence("In a CYCLE the word at the counter is done");
        for (int position = 0; position < 32; position++) {
            GateProcessor x = Tools.at(position, 0);
            for (int i = 0; i < 32; i++) {
                x.program(i, Tools.word(Tools.LOAD, 0, 0, 50 + i));
            }
            x.cycle(1, 0);
            CHECKS.due("register(0) after the word at " + position, x.register(0), 50 + position);
        }
        // The word is read when its turn comes, not when it is written or when a cycle before it is done.
        GateProcessor x = Tools.with(Tools.word(Tools.LOAD, 0, 0, 1), Tools.word(Tools.LOAD, 0, 0, 2));
        x.cycle(1, 0);
        x.program(1, Tools.word(Tools.LOAD, 0, 0, 3));
        x.cycle(1, 0);
        CHECKS.due("register(0) after a word written anew", x.register(0), 3);
    }

    private static void counterGoesOn() {
        CHECKS.sentence("the counter goes on by one (from 31 to 0) unless said otherwise");
        int[] goOn = {Tools.LOAD, Tools.MOVE, Tools.ADD, Tools.ADDC, Tools.SUB, Tools.AND, Tools.OR, Tools.XOR, Tools.SHIFT,
            Tools.FETCH, Tools.STORE, Tools.PORT};
        for (int op : goOn) {
            for (int m : new int[] {0, 1, 2, 3, 128, 255}) {
                for (int position : new int[] {0, 15, 30, 31}) {
                    GateProcessor x = Tools.at(position, 0);
                    Tools.doOne(x, Tools.word(op, 1, 2, m));
                    CHECKS.due("counter() after operation " + op + ", m " + m + " at " + position, x.counter(),
                        position == 31 ? 0 : position + 1);
                }
            }
        }
        int[] flagsNotTaken = {0, 1, 0, 2};
        for (int d = 0; d < 4; d++) {
            GateProcessor x = Tools.at(31, flagsNotTaken[d]);
            Tools.doOne(x, Tools.word(Tools.BRANCH, d, 0, 9));
            CHECKS.due("counter() after a BRANCH at 31 that does not hold, d " + d, x.counter(), 0);
        }
        GateProcessor x = Tools.at(30, 0);
        x.program(30, Tools.word(Tools.LOAD, 0, 0, 1));
        x.program(31, Tools.word(Tools.LOAD, 1, 0, 2));
        x.program(0, Tools.word(Tools.LOAD, 2, 0, 3));
        CHECKS.due("cycle(60, 0) from 30 to a HALT at 1", x.cycle(60, 0), 4);
        CHECKS.due("state after it", Tools.state(x),
            "registers 1 2 3 0, memory" + " 0".repeat(16) + ", flags 0, counter 1, link 0, out 0, outs 0, halted true");
    }

    private static void ofItself(int op, int m, int r, int flags, int wantR, int wantFlags) {
        GateProcessor x = Tools.at(5, flags);
        x.setRegister(3, r);
        Tools.doOne(x, Tools.word(op, 3, 3, m));
        Model y = wentOn(wantFlags);
        y.register[3] = wantR;
        CHECKS.due("operation " + op + " with d = s, m " + m + ", register " + r, Tools.state(x), y.state());
    }

    private static void beforeTheInstruction() {
        CHECKS.sentence("R means register d, S register s, before the instruction");
        ofItself(Tools.MOVE, 0, 200, 0, 200, 0);
        ofItself(Tools.MOVE, 1, 17, 0, 33, 0);
        ofItself(Tools.MOVE, 2, 200, 0, 156, 0);
        ofItself(Tools.MOVE, 3, 200, 0, 19, 0);
        ofItself(Tools.ADD, 0, 128, 0, 0, 3);
        ofItself(Tools.ADD, 0, 127, 2, 254, 0);
        ofItself(Tools.ADDC, 0, 128, 2, 1, 2);
        ofItself(Tools.SUB, 0, 200, 2, 0, 1);
        ofItself(Tools.AND, 0, 200, 1, 200, 0);
        ofItself(Tools.OR, 0, 200, 1, 200, 0);
        ofItself(Tools.XOR, 0, 200, 0, 0, 1);
        GateProcessor x = Tools.at(5, 0);
        x.setRegister(3, 14);
        x.setMemory(15, 99);
        x.setMemory(3, 98);
        Tools.doOne(x, Tools.word(Tools.FETCH, 3, 3, 1));
        CHECKS.due("register(3) after FETCH with d = s", x.register(3), 99);
        x.setRegister(3, 18);
        Tools.doOne(x, Tools.word(Tools.STORE, 3, 3, 2));
        CHECKS.due("memory(4) after STORE with d = s", x.memory(4), 18);
        CHECKS.due("register(3) after STORE with d = s", x.register(3), 18);
    }

    private static void bytesAreTakenModulo() {
        CHECKS.sentence("bytes are taken modulo 256");
        gives(Tools.ADD, 0, 255, 1, 0, 0, 3);
        gives(Tools.ADD, 0, 200, 100, 0, 44, 2);
        gives(Tools.ADDC, 0, 255, 255, 2, 255, 2);
        gives(Tools.SUB, 0, 0, 1, 0, 255, 2);
        gives(Tools.SUB, 0, 0, 255, 0, 1, 2);
        gives(Tools.MOVE, 1, 16, 16, 0, 0, 0);
        gives(Tools.MOVE, 1, 255, 255, 0, 1, 0);
        gives(Tools.MOVE, 1, 255, 2, 0, 254, 0);
        gives(Tools.SHIFT, 0, 255, 0, 0, 254, 2);
        gives(Tools.SHIFT, 2, 255, 0, 2, 255, 2);
    }

    private static void halt() {
        CHECKS.sentence("HALT: the processor halts; the counter stays");
        for (int position : new int[] {0, 1, 30, 31}) {
            for (int flags = 0; flags < 4; flags++) {
                GateProcessor x = Tools.at(position, flags);
                x.setRegister(3, 9);
                CHECKS.due("cycle(1, 0) at " + position, Tools.doOne(x, Tools.word(Tools.HALT, 3, 2, 255)), 1);
                Model y = wentOn(flags);
                y.counter = position;
                y.register[3] = 9;
                y.halted = true;
                CHECKS.due("state after HALT at " + position, Tools.state(x), y.state());
            }
        }
    }

    private static void load() {
        CHECKS.sentence("LOAD: R becomes m");
        for (int m = 0; m < 256; m++) {
            gives(Tools.LOAD, m, 255 - m, 7, m % 4, m, m % 4);
        }
    }

    private static void move() {
        // R, S, and what R becomes when m mod 4 is 0, 1, 2, 3.
        int[][] rows = {
            {0, 0, 0, 0, 0, 0}, {0, 255, 255, 0, 0, 255}, {255, 0, 0, 0, 0, 0}, {1, 255, 255, 255, 0, 255},
            {255, 1, 1, 255, 0, 128}, {16, 16, 16, 0, 1, 8}, {255, 255, 255, 1, 254, 255}, {128, 2, 2, 0, 1, 64},
            {127, 2, 2, 254, 0, 64}, {15, 17, 17, 255, 0, 136}, {85, 170, 170, 114, 56, 85}, {9, 128, 128, 128, 4, 1},
            {200, 13, 13, 40, 10, 176}};
        String[] cases = {"m mod 4 = 0: R becomes S", "1: R becomes R * S", "2: R becomes R * S / 256 rounded down",
            "3: R becomes S with its bits in opposite order"};
        for (int kind = 0; kind < 4; kind++) {
            CHECKS.sentence("MOVE: " + cases[kind]);
            for (int m = kind; m < 256; m += 4) {
                for (int[] row : rows) {
                    gives(Tools.MOVE, m, row[0], row[1], 0, row[2 + kind], 0);
                }
            }
        }
        CHECKS.sentence("MOVE: The flags stay");
        for (int kind = 0; kind < 4; kind++) {
            for (int flags = 0; flags < 4; flags++) {
                for (int[] row : rows) {
                    gives(Tools.MOVE, kind, row[0], row[1], flags, row[2 + kind], flags);
                }
            }
        }
    }

    private static void add() {
        CHECKS.sentence("ADD: R becomes R + S; CARRY, ZERO");
        for (int flags = 0; flags < 4; flags++) {
            gives(Tools.ADD, 9, 0, 0, flags, 0, 1);
            gives(Tools.ADD, 9, 0, 1, flags, 1, 0);
            gives(Tools.ADD, 9, 1, 0, flags, 1, 0);
            gives(Tools.ADD, 9, 254, 1, flags, 255, 0);
            gives(Tools.ADD, 9, 0, 255, flags, 255, 0);
            gives(Tools.ADD, 9, 255, 1, flags, 0, 3);
            gives(Tools.ADD, 9, 128, 128, flags, 0, 3);
            gives(Tools.ADD, 9, 128, 129, flags, 1, 2);
            gives(Tools.ADD, 9, 255, 255, flags, 254, 2);
        }
    }

    private static void addWithCarry() {
        CHECKS.sentence("ADDC: R becomes R + S + the CARRY; CARRY, ZERO");
        for (int zero = 0; zero < 2; zero++) {
            gives(Tools.ADDC, 9, 0, 0, zero, 0, 1);
            gives(Tools.ADDC, 9, 255, 0, zero, 255, 0);
            gives(Tools.ADDC, 9, 255, 1, zero, 0, 3);
            gives(Tools.ADDC, 9, 255, 255, zero, 254, 2);
            gives(Tools.ADDC, 9, 0, 0, 2 + zero, 1, 0);
            gives(Tools.ADDC, 9, 254, 0, 2 + zero, 255, 0);
            gives(Tools.ADDC, 9, 255, 0, 2 + zero, 0, 3);
            gives(Tools.ADDC, 9, 0, 255, 2 + zero, 0, 3);
            gives(Tools.ADDC, 9, 127, 128, 2 + zero, 0, 3);
            gives(Tools.ADDC, 9, 255, 1, 2 + zero, 1, 2);
            gives(Tools.ADDC, 9, 255, 255, 2 + zero, 255, 2);
        }
    }

    private static void subtract() {
        CHECKS.sentence("SUB: R becomes R - S; CARRY (1 when R < S), ZERO");
        for (int flags = 0; flags < 4; flags++) {
            gives(Tools.SUB, 9, 0, 0, flags, 0, 1);
            gives(Tools.SUB, 9, 255, 255, flags, 0, 1);
            gives(Tools.SUB, 9, 255, 0, flags, 255, 0);
            gives(Tools.SUB, 9, 128, 127, flags, 1, 0);
            gives(Tools.SUB, 9, 127, 128, flags, 255, 2);
            gives(Tools.SUB, 9, 0, 1, flags, 255, 2);
            gives(Tools.SUB, 9, 0, 128, flags, 128, 2);
            gives(Tools.SUB, 9, 0, 255, flags, 1, 2);
            gives(Tools.SUB, 9, 254, 255, flags, 255, 2);
        }
    }

    private static void and() {
        CHECKS.sentence("AND: R becomes the bits that are in R and S; ZERO");
        for (int carry = 0; carry < 4; carry += 2) {
            for (int zero = 0; zero < 2; zero++) {
                gives(Tools.AND, 9, 0, 0, carry + zero, 0, carry + 1);
                gives(Tools.AND, 9, 255, 255, carry + zero, 255, carry);
                gives(Tools.AND, 9, 255, 0, carry + zero, 0, carry + 1);
                gives(Tools.AND, 9, 170, 85, carry + zero, 0, carry + 1);
                gives(Tools.AND, 9, 129, 192, carry + zero, 128, carry);
                gives(Tools.AND, 9, 3, 5, carry + zero, 1, carry);
            }
        }
    }

    private static void or() {
        CHECKS.sentence("OR: R becomes the bits that are in R or S; ZERO");
        for (int carry = 0; carry < 4; carry += 2) {
            for (int zero = 0; zero < 2; zero++) {
                gives(Tools.OR, 9, 0, 0, carry + zero, 0, carry + 1);
                gives(Tools.OR, 9, 255, 255, carry + zero, 255, carry);
                gives(Tools.OR, 9, 0, 1, carry + zero, 1, carry);
                gives(Tools.OR, 9, 128, 0, carry + zero, 128, carry);
                gives(Tools.OR, 9, 170, 85, carry + zero, 255, carry);
                gives(Tools.OR, 9, 3, 5, carry + zero, 7, carry);
            }
        }
    }

    private static void xor() {
        CHECKS.sentence("XOR: R becomes the bits that are in one of R and S only; ZERO");
        for (int carry = 0; carry < 4; carry += 2) {
            for (int zero = 0; zero < 2; zero++) {
                gives(Tools.XOR, 9, 0, 0, carry + zero, 0, carry + 1);
                gives(Tools.XOR, 9, 255, 255, carry + zero, 0, carry + 1);
                gives(Tools.XOR, 9, 255, 0, carry + zero, 255, carry);
                gives(Tools.XOR, 9, 0, 255, carry + zero, 255, carry);
                gives(Tools.XOR, 9, 129, 1, carry + zero, 128, carry);
                gives(Tools.XOR, 9, 3, 5, carry + zero, 6, carry);
            }
        }
    }

    // R, what it becomes to the left with 0 coming in, and its bit 7; the same to the right, and its bit 0.
    private static final int[][] SHIFTED = {
        {0, 0, 0, 0, 0}, {1, 2, 0, 0, 1}, {2, 4, 0, 1, 0}, {64, 128, 0, 32, 0}, {127, 254, 0, 63, 1}, {128, 0, 1, 64, 0},
        {129, 2, 1, 64, 1}, {170, 84, 1, 85, 0}, {254, 252, 1, 127, 0}, {255, 254, 1, 127, 1}};

    private static void shiftsOf(int kind, boolean carryBefore) {
        boolean left = kind % 2 == 0;
        int comesIn = kind >= 2 && carryBefore ? left ? 1 : 128 : 0;
        for (int m = kind; m < 256; m += 4) {
            for (int[] row : SHIFTED) {
                int want = (left ? row[1] : row[3]) + comesIn;
                int carry = left ? row[2] : row[4];
                for (int zero = 0; zero < 2; zero++) {
                    gives(Tools.SHIFT, m, row[0], 77, (carryBefore ? 2 : 0) + zero, want, 2 * carry + (want == 0 ? 1 : 0));
                }
            }
        }
    }

    private static void shift() {
        CHECKS.sentence("SHIFT: m even: R becomes 2 * R, CARRY its bit 7 before (m mod 4 is 0)");
        shiftsOf(0, false);
        CHECKS.sentence("SHIFT: m odd: R becomes R / 2 rounded down, CARRY its bit 0 before (m mod 4 is 1)");
        shiftsOf(1, false);
        CHECKS.sentence("SHIFT: The bit that comes in is 0 when m mod 4 is 0 or 1");
        shiftsOf(0, true);
        shiftsOf(1, true);
        CHECKS.sentence("SHIFT: and the CARRY before when it is 2 (bit 0 for m even)");
        shiftsOf(2, false);
        shiftsOf(2, true);
        CHECKS.sentence("SHIFT: and the CARRY before when it is 3 (bit 7 for m odd)");
        shiftsOf(3, false);
        shiftsOf(3, true);
    }

    // S, m, and the cell: sums below, at and past each edge.
    private static final int[][] CELL_OF = {
        {0, 0, 0}, {0, 15, 15}, {15, 0, 15}, {15, 1, 0}, {1, 15, 0}, {16, 0, 0}, {0, 16, 0}, {0, 17, 1}, {0, 255, 15}, {255, 0, 15},
        {255, 1, 0}, {1, 255, 0}, {128, 128, 0}, {128, 127, 15}, {255, 16, 15}, {255, 255, 14}, {200, 100, 12}};

    private static GateProcessor withCells(int[] row, int flags) {
        GateProcessor x = Tools.at(5, flags);
        for (int a = 0; a < 16; a++) {
            x.setMemory(a, 100 + a);
        }
        x.setRegister(R, 33);
        x.setRegister(S, row[0]);
        return x;
    }

    private static Model cellsStay(int[] row, int flags) {
        Model y = wentOn(flags);
        for (int a = 0; a < 16; a++) {
            y.memory[a] = 100 + a;
        }
        y.register[R] = 33;
        y.register[S] = row[0];
        return y;
    }

    private static void fetch() {
        CHECKS.sentence("FETCH: R becomes memory cell (S + m) mod 16");
        for (int[] row : CELL_OF) {
            for (int flags = 0; flags < 4; flags++) {
                GateProcessor x = withCells(row, flags);
                Tools.doOne(x, Tools.word(Tools.FETCH, R, S, row[1]));
                Model y = cellsStay(row, flags);
                y.register[R] = 100 + row[2];
                CHECKS.due("S " + row[0] + ", m " + row[1], Tools.state(x), y.state());
            }
        }
    }

    private static void store() {
        CHECKS.sentence("STORE: memory cell (S + m) mod 16 becomes R");
        for (int[] row : CELL_OF) {
            for (int flags = 0; flags < 4; flags++) {
                GateProcessor x = withCells(row, flags);
                Tools.doOne(x, Tools.word(Tools.STORE, R, S, row[1]));
                Model y = cellsStay(row, flags);
                y.memory[row[2]] = 33;
                CHECKS.due("S " + row[0] + ", m " + row[1], Tools.state(x), y.state());
            }
        }
    }

    // m, and m mod 32.
    private static final int[][] GOES_TO = {
        {0, 0}, {1, 1}, {5, 5}, {30, 30}, {31, 31}, {32, 0}, {33, 1}, {63, 31}, {64, 0}, {95, 31}, {96, 0}, {127, 31},
        {128, 0}, {159, 31}, {160, 0}, {224, 0}, {254, 30}, {255, 31}};

    private static void jump() {
        CHECKS.sentence("JUMP: the counter becomes m mod 32");
        for (int[] row : GOES_TO) {
            for (int position : new int[] {0, 5, 31}) {
                GateProcessor x = Tools.at(position, 3);
                Tools.doOne(x, Tools.word(Tools.JUMP, 1, 2, row[0]));
                Model y = wentOn(3);
                y.counter = row[1];
                CHECKS.due("m " + row[0] + " at " + position, Tools.state(x), y.state());
            }
        }
        GateProcessor x = Tools.at(7, 0);
        x.program(7, Tools.word(Tools.JUMP, 0, 0, 7));
        CHECKS.due("cycle(60, 0) of a JUMP to itself", x.cycle(60, 0), 60);
        CHECKS.due("counter() after a JUMP to itself", x.counter(), 7);
    }

    private static void branch() {
        String[] cases = {"d = 0: ZERO is 1", "1: ZERO is 0", "2: CARRY is 1", "3: CARRY is 0"};
        // By d, the flags (ZERO + 2 * CARRY) with which it holds.
        String[] holds = {"1 3", "0 2", "2 3", "0 1"};
        for (int d = 0; d < 4; d++) {
            CHECKS.sentence("BRANCH: the counter becomes m mod 32 if: " + cases[d]);
            for (int flags = 0; flags < 4; flags++) {
                for (int[] row : GOES_TO) {
                    GateProcessor x = Tools.at(5, flags);
                    Tools.doOne(x, Tools.word(Tools.BRANCH, d, 3, row[0]));
                    Model y = wentOn(flags);
                    y.counter = holds[d].contains("" + flags) ? row[1] : 6;
                    CHECKS.due("m " + row[0] + ", flags " + flags, Tools.state(x), y.state());
                }
            }
        }
    }

    private static void call() {
        CHECKS.sentence("CALL: m below 128: the link becomes the next position, the counter m mod 32");
        for (int[] row : GOES_TO) {
            if (row[0] >= 128) {
                continue;
            }
            for (int position : new int[] {0, 30, 31}) {
                GateProcessor x = Tools.at(position, 3);
                Tools.doOne(x, Tools.word(Tools.CALL, 1, 2, row[0]));
                Model y = wentOn(3);
                y.counter = row[1];
                y.link = position == 31 ? 0 : position + 1;
                CHECKS.due("m " + row[0] + " at " + position, Tools.state(x), y.state());
            }
        }
        GateProcessor x = Tools.at(5, 0);
        Tools.doOne(x, Tools.word(Tools.CALL, 0, 0, 20));
        Tools.doOne(x, Tools.word(Tools.CALL, 0, 0, 31));
        CHECKS.due("link() after a CALL in a CALL", x.link(), 21);
        CHECKS.due("counter() after a CALL in a CALL", x.counter(), 31);
    }

    private static void goBack() {
        CHECKS.sentence("CALL: otherwise: the counter becomes the link");
        for (int m : new int[] {128, 129, 138, 159, 160, 254, 255}) {
            for (int position : new int[] {0, 12, 30, 31}) {
                GateProcessor x = Tools.at(position, 3);
                Tools.doOne(x, Tools.word(Tools.CALL, 0, 0, 17));
                Tools.doOne(x, Tools.word(Tools.CALL, 1, 2, m));
                Model y = wentOn(3);
                y.link = position == 31 ? 0 : position + 1;
                y.counter = y.link;
                CHECKS.due("m " + m + " after a CALL at " + position, Tools.state(x), y.state());
                Tools.doOne(x, Tools.word(Tools.CALL, 1, 2, m));
                CHECKS.due("m " + m + " again", Tools.state(x), y.state());
            }
            GateProcessor x = Tools.at(9, 0);
            Tools.doOne(x, Tools.word(Tools.CALL, 0, 0, m));
            CHECKS.due("m " + m + " with a link never set", Tools.state(x), Tools.NEW_STATE);
        }
    }

    private static void portIn() {
        CHECKS.sentence("PORT: m even: R becomes the IN port");
        for (int m = 0; m < 256; m += 2) {
            for (int v : new int[] {0, 255}) {
                GateProcessor x = Tools.at(5, m / 2 % 4);
                x.in(v);
                x.setRegister(R, 33);
                Tools.doOne(x, Tools.word(Tools.PORT, R, S, m));
                Model y = wentOn(m / 2 % 4);
                y.register[R] = v;
                CHECKS.due("m " + m + ", IN port " + v, Tools.state(x), y.state());
                CHECKS.due("IN port after m " + m, Tools.inPort(x), v);
            }
        }
    }

    private static void portOut() {
        CHECKS.sentence("PORT: m odd: the OUT port becomes R, and the number of times grows by 1");
        for (int m = 1; m < 256; m += 2) {
            GateProcessor x = Tools.at(5, m / 2 % 4);
            x.in(44);
            int[] values = {255, 255, 0};
            for (int i = 0; i < 3; i++) {
                x.setRegister(R, values[i]);
                Tools.doOne(x, Tools.word(Tools.PORT, R, S, m));
                Model y = wentOn(m / 2 % 4);
                y.counter = 6 + i;
                y.register[R] = values[i];
                y.out = values[i];
                y.outs = i + 1;
                CHECKS.due("m " + m + ", time " + (i + 1), Tools.state(x), y.state());
            }
            CHECKS.due("IN port after m " + m, Tools.inPort(x), 44);
        }
    }

    private static void carryBecomes() {
        CHECKS.sentence("CARRY: the flag becomes 1 when the sum is 256 or more, else 0");
        for (int carry = 0; carry < 2; carry++) {
            for (int r = 0; r < 256; r += 5) {
                int[] sums = {254, 255, 256, 257, 510};
                for (int sum : sums) {
                    carryOfSum(Tools.ADD, carry, r, sum - r, sum);
                    carryOfSum(Tools.ADDC, carry, r, sum - carry - r, sum);
                }
            }
        }
    }

    private static void carryOfSum(int op, int carry, int r, int s, int sum) {
        if (s >= 0 && s < 256) {
            gives(op, 0, r, s, 2 * carry, sum % 256, (sum >= 256 ? 2 : 0) + (sum == 256 ? 1 : 0));
        }
    }

    private static void zeroBecomes() {
        CHECKS.sentence("ZERO: the flag becomes 1 when R is 0 then, else 0");
        for (int zero = 0; zero < 2; zero++) {
            gives(Tools.ADD, 0, 0, 0, zero, 0, 1);
            gives(Tools.ADD, 0, 156, 100, zero, 0, 3);
            gives(Tools.ADD, 0, 0, 128, zero, 128, 0);
            gives(Tools.ADDC, 0, 255, 0, 2 + zero, 0, 3);
            gives(Tools.ADDC, 0, 0, 0, 2 + zero, 1, 0);
            gives(Tools.SUB, 0, 1, 1, zero, 0, 1);
            gives(Tools.SUB, 0, 1, 2, zero, 255, 2);
            gives(Tools.AND, 0, 1, 2, zero, 0, 1);
            gives(Tools.AND, 0, 1, 1, zero, 1, 0);
            gives(Tools.OR, 0, 0, 0, zero, 0, 1);
            gives(Tools.OR, 0, 0, 1, zero, 1, 0);
            gives(Tools.XOR, 0, 1, 1, zero, 0, 1);
            gives(Tools.XOR, 0, 1, 0, zero, 1, 0);
            gives(Tools.SHIFT, 0, 128, 0, zero, 0, 3);
            gives(Tools.SHIFT, 2, 128, 0, 2 + zero, 1, 2);
            gives(Tools.SHIFT, 1, 1, 0, zero, 0, 3);
            gives(Tools.SHIFT, 3, 1, 0, 2 + zero, 128, 2);
        }
    }

    private static void flagsStay() {
        CHECKS.sentence("Where they are not named they stay.");
        int[] neither = {Tools.HALT, Tools.LOAD, Tools.MOVE, Tools.FETCH, Tools.STORE, Tools.JUMP, Tools.BRANCH, Tools.CALL, Tools.PORT};
        for (int op : neither) {
            for (int m : new int[] {0, 1, 2, 3, 127, 128, 255}) {
                for (int v : new int[] {0, 1, 255}) {
                    for (int flags = 0; flags < 4; flags++) {
                        CHECKS.due("flags() after operation " + op + ", m " + m + " of " + v, flagsAfter(op, m, v, flags), flags);
                    }
                }
            }
        }
        for (int op : new int[] {Tools.AND, Tools.OR, Tools.XOR}) {
            for (int v : new int[] {0, 1, 255}) {
                for (int flags = 0; flags < 4; flags++) {
                    CHECKS.due("CARRY after operation " + op + " of " + v, flagsAfter(op, 0, v, flags) / 2, flags / 2);
                }
            }
        }
    }

    private static int flagsAfter(int op, int m, int v, int flags) {
        GateProcessor x = Tools.at(5, flags);
        x.setRegister(R, v);
        x.setRegister(S, v);
        x.in(v);
        Tools.doOne(x, Tools.word(op, R, S, m));
        return x.flags();
    }

    private static void haltedDoesNothing() {
        CHECKS.sentence("A halted processor does nothing until it is reset.");
        GateProcessor x = Tools.busy();
        // Neither a new word at the counter nor at 0 sets it going.
        x.program(8, Tools.word(Tools.PORT, 0, 0, 1));
        x.program(0, Tools.word(Tools.LOAD, 0, 0, 200));
        for (int engine = 0; engine < 4; engine++) {
            for (int n : new int[] {Integer.MIN_VALUE, -1, 0, 1, 59, 60, 61, Integer.MAX_VALUE}) {
                CHECKS.due("cycle(" + n + ", " + engine + ") when halted", x.cycle(n, engine), 0);
            }
        }
        CHECKS.due("state when halted", Tools.state(x), Tools.BUSY_STATE);
        x.in(78);
        x.setRegister(0, 16);
        x.setMemory(0, 100);
        CHECKS.due("cycle(1, 0) still halted", x.cycle(1, 0), 0);
        CHECKS.due("state still halted", Tools.state(x), Tools.BUSY_STATE);
        x.reset();
        CHECKS.due("halted() after reset", x.halted(), false);
        CHECKS.due("cycle(1, 0) after reset", x.cycle(1, 0), 1);
        CHECKS.due("register(0) after reset", x.register(0), 200);
    }
}
