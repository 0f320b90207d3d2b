public final class GateProcessor {
    public static final int BAD = -1;

    private static final int REGISTERS = 4;
    private static final int CELLS = 16;
    private static final int POSITIONS = 32;
    private static final int ENGINES = 4;
    private static final int MOST_CYCLES = 60;

    private static final int LAST_BYTE = 255;
    private static final int LAST_WORD = 65535;
    private static final int TOP_BIT = 128;

    private static final int HALT = 0;
    private static final int LOAD = 1;
    private static final int MOVE = 2;
    private static final int ADD = 3;
    private static final int ADDC = 4;
    private static final int SUB = 5;
    private static final int AND = 6;
    private static final int OR = 7;
    private static final int XOR = 8;
    private static final int SHIFT = 9;
    private static final int FETCH = 10;
    private static final int STORE = 11;
    private static final int JUMP = 12;
    private static final int BRANCH = 13;
    private static final int CALL = 14;
    private static final int PORT = 15;

    private final int[] words = new int[POSITIONS];
    private final int[] registers = new int[REGISTERS];
    private final int[] cells = new int[CELLS];
    private int zeroFlag;
    private int carryFlag;
    private int counterNow;
    private int linkNow;
    private int inPort;
    private int outPort;
    private int timesOut;
    private boolean hasHalted;

    public GateProcessor() {
    }

    public boolean program(int position, int word) {
        if (!isPosition(position) || word < 0 || word > LAST_WORD) {
            return false;
        }
        words[position] = word;
        return true;
    }

    public int word(int position) {
        return isPosition(position) ? words[position] : BAD;
    }

    public void reset() {
        for (int r = 0; r < REGISTERS; r++) {
            registers[r] = 0;
        }
        for (int a = 0; a < CELLS; a++) {
            cells[a] = 0;
        }
        zeroFlag = 0;
        carryFlag = 0;
        counterNow = 0;
        linkNow = 0;
        outPort = 0;
        timesOut = 0;
        hasHalted = false;
    }

    public boolean in(int v) {
        if (!isByte(v)) {
            return false;
        }
        inPort = v;
        return true;
    }

    public boolean setRegister(int r, int v) {
        if (!isRegister(r) || !isByte(v)) {
            return false;
        }
        registers[r] = v;
        return true;
    }

    public boolean setMemory(int a, int v) {
        if (!isCell(a) || !isByte(v)) {
            return false;
        }
        cells[a] = v;
        return true;
    }

    // The engine is only looked at, never used: the document says that all four do the same.
    public int cycle(int n, int engine) {
        if (engine < 0 || engine >= ENGINES) {
            return BAD;
        }
        int done = 0;
        for (int i = 0; i < MOST_CYCLES && i < n && !hasHalted; i++) {
            doWord(words[counterNow]);
            done++;
        }
        return done;
    }

    public boolean halted() {
        return hasHalted;
    }

    public int counter() {
        return counterNow;
    }

    public int register(int r) {
        return isRegister(r) ? registers[r] : BAD;
    }

    public int memory(int a) {
        return isCell(a) ? cells[a] : BAD;
    }

    public int flags() {
        return zeroFlag + 2 * carryFlag;
    }

    public int link() {
        return linkNow;
    }

    public int out() {
        return outPort;
    }

    public int outs() {
        return timesOut;
    }

    public boolean same(int r, int s) {
        return isRegister(r) && isRegister(s) && registers[r] == registers[s];
    }

    private static boolean isPosition(int position) {
        return position >= 0 && position < POSITIONS;
    }

    private static boolean isRegister(int r) {
        return r >= 0 && r < REGISTERS;
    }

    private static boolean isCell(int a) {
        return a >= 0 && a < CELLS;
    }

    private static boolean isByte(int v) {
        return v >= 0 && v <= LAST_BYTE;
    }

    private static int positionOf(int number) {
        return number & (POSITIONS - 1);
    }

    private void doWord(int word) {
        int op = word & 15;
        int d = (word >> 4) & 3;
        int s = (word >> 6) & 3;
        int m = (word >> 8) & LAST_BYTE;
        int next = positionOf(counterNow + 1);
        switch (op) {
            case HALT:
                hasHalted = true;
                break;
            case JUMP:
                counterNow = positionOf(m);
                break;
            case BRANCH:
                counterNow = branchHolds(d) ? positionOf(m) : next;
                break;
            case CALL:
                doCall(m, next);
                break;
            default:
                doData(op, d, s, m);
                counterNow = next;
                break;
        }
    }

    private boolean branchHolds(int condition) {
        switch (condition) {
            case 0:
                return zeroFlag == 1;
            case 1:
                return zeroFlag == 0;
            case 2:
                return carryFlag == 1;
            default:
                return carryFlag == 0;
        }
    }

    private void doCall(int m, int next) {
        if (m < 128) {
            linkNow = next;
            counterNow = positionOf(m);
        } else {
            counterNow = linkNow;
        }
    }

    private void doData(int op, int d, int s, int m) {
        int before = registers[d];
        int other = registers[s];
        int cell = (other + m) & (CELLS - 1);
        switch (op) {
            case LOAD:
                registers[d] = m;
                break;
            case MOVE:
                registers[d] = moved(before, other, m & 3);
                break;
            case ADD:
                keepSum(d, before + other);
                break;
            case ADDC:
                keepSum(d, before + other + carryFlag);
                break;
            case SUB:
                carryFlag = before < other ? 1 : 0;
                keepWithZero(d, (before - other) & LAST_BYTE);
                break;
            case AND:
                keepWithZero(d, before & other);
                break;
            case OR:
                keepWithZero(d, before | other);
                break;
            case XOR:
                keepWithZero(d, before ^ other);
                break;
            case SHIFT:
                doShift(d, before, m);
                break;
            case FETCH:
                registers[d] = cells[cell];
                break;
            case STORE:
                cells[cell] = before;
                break;
            case PORT:
                doPort(d, m);
                break;
            default:
                break;
        }
    }

    private static int moved(int before, int other, int kind) {
        switch (kind) {
            case 0:
                return other;
            case 1:
                return (before * other) & LAST_BYTE;
            case 2:
                return (before * other) >> 8;
            default:
                return reversed(other);
        }
    }

    private static int reversed(int v) {
        int turned = 0;
        for (int bit = 0; bit < 8; bit++) {
            turned = 2 * turned + ((v >> bit) & 1);
        }
        return turned;
    }

    private void keepSum(int d, int sum) {
        carryFlag = sum > LAST_BYTE ? 1 : 0;
        keepWithZero(d, sum & LAST_BYTE);
    }

    private void keepWithZero(int d, int v) {
        registers[d] = v;
        zeroFlag = v == 0 ? 1 : 0;
    }

    private void doShift(int d, int before, int m) {
        int comesIn = (m & 2) == 0 ? 0 : carryFlag;
        if ((m & 1) == 0) {
            carryFlag = before >> 7;
            keepWithZero(d, ((2 * before) & LAST_BYTE) + comesIn);
        } else {
            carryFlag = before & 1;
            keepWithZero(d, before / 2 + TOP_BIT * comesIn);
        }
    }

    private void doPort(int d, int m) {
        if ((m & 1) == 0) {
            registers[d] = inPort;
        } else {
            outPort = registers[d];
            timesOut = (timesOut + 1) & LAST_BYTE;
        }
    }
}
