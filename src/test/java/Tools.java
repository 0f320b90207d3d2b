/** What several tests need: the names of the operations, words made of their parts, and the visible state. */
final class Tools {
    static final int HALT = 0, LOAD = 1, MOVE = 2, ADD = 3, ADDC = 4, SUB = 5, AND = 6, OR = 7;
    static final int XOR = 8, SHIFT = 9, FETCH = 10, STORE = 11, JUMP = 12, BRANCH = 13, CALL = 14, PORT = 15;

    /** Numbers that are out of every range of the document. */
    static final int[] FAR = {-1, -2, -32, -256, -65536, Integer.MIN_VALUE, 65536, 65537, 1 << 20, Integer.MAX_VALUE};

    private Tools() {
    }

    static int word(int op, int d, int s, int m) {
        return op + 16 * d + 64 * s + 256 * m;
    }

    /** A new object with these words from position 0 on. */
    static GateProcessor with(int... words) {
        GateProcessor x = new GateProcessor();
        for (int i = 0; i < words.length; i++) {
            x.program(i, words[i]);
        }
        return x;
    }

    /** The state but for the program and the IN port: 26 calls of the 512 that an object has. */
    static String state(GateProcessor x) {
        StringBuilder text = new StringBuilder("registers");
        for (int r = 0; r < 4; r++) {
            text.append(' ').append(x.register(r));
        }
        text.append(", memory");
        for (int a = 0; a < 16; a++) {
            text.append(' ').append(x.memory(a));
        }
        return text.append(", flags ").append(x.flags()).append(", counter ").append(x.counter())
            .append(", link ").append(x.link()).append(", out ").append(x.out())
            .append(", outs ").append(x.outs()).append(", halted ").append(x.halted()).toString();
    }

    /** The program: 32 calls of the 512 that an object has. */
    static String words(GateProcessor x) {
        StringBuilder text = new StringBuilder("words");
        for (int i = 0; i < 32; i++) {
            text.append(' ').append(x.word(i));
        }
        return text.toString();
    }

    /** Reads the IN port by an instruction at the counter; uses the object up. */
    static int inPort(GateProcessor x) {
        x.reset();
        x.program(0, word(PORT, 0, 0, 0));
        x.cycle(1, 0);
        return x.register(0);
    }

    /** A new object but for its counter and its flags (ZERO + 2 * CARRY); its program is all 0 again. */
    static GateProcessor at(int position, int flags) {
        // SHIFT to the left gives every pair of flags: CARRY is bit 7, ZERO says that nothing else is left.
        GateProcessor x = with(word(SHIFT, 0, 0, 0), word(LOAD, 0, 0, 0), word(JUMP, 0, 0, position));
        x.setRegister(0, 128 * (flags / 2) + 1 - flags % 2);
        x.cycle(3, 0);
        for (int i = 0; i < 3; i++) {
            x.program(i, 0);
        }
        return x;
    }

    /** Writes the word at the counter and does it. */
    static int doOne(GateProcessor x, int word) {
        x.program(x.counter(), word);
        return x.cycle(1, 0);
    }

    /** Numbers that are not 0 .. last, among them those that would be in the range if bits were cut off. */
    static int[] outside(int last) {
        int size = last + 1;
        return new int[] {-1, -2, -last, -size, 1 - size, -256, -65536, Integer.MIN_VALUE, Integer.MIN_VALUE + 1,
            size, size + 1, 2 * size, 2 * size + 1, 1 << 17, (1 << 30) + 1, Integer.MAX_VALUE, Integer.MAX_VALUE - 1};
    }

    /** Everything is other than 0 or false; all of it is given by the words' own meaning. */
    static GateProcessor busy() {
        GateProcessor x = with(
            word(CALL, 0, 0, 5), 0, 0, 0, 0,
            word(ADD, 0, 1, 0),
            word(SHIFT, 2, 0, 0),
            word(PORT, 3, 0, 1),
            word(HALT, 0, 0, 0));
        for (int a = 0; a < 16; a++) {
            x.setMemory(a, 100 + a);
        }
        x.setRegister(0, 7);
        x.setRegister(1, 9);
        x.setRegister(2, 128);
        x.setRegister(3, 44);
        x.in(77);
        x.cycle(60, 0);
        return x;
    }

    static final String BUSY_STATE = "registers 16 9 0 44, memory 100 101 102 103 104 105 106 107 108 109 110 111 112 113 114 115"
        + ", flags 3, counter 8, link 1, out 44, outs 1, halted true";
    static final String NEW_STATE = "registers 0 0 0 0, memory 0 0 0 0 0 0 0 0 0 0 0 0 0 0 0 0"
        + ", flags 0, counter 0, link 0, out 0, outs 0, halted false";
}
