/**
 * The document's terms again, written apart from the program and in another manner (sums, division
 * and remainders, no masks), so that a slip in one is not a slip in both.
 */
final class Model {
    final int[] word = new int[32];
    final int[] register = new int[4];
    final int[] memory = new int[16];
    int zero, carry, counter, link, in, out, outs;
    boolean halted;

    void reset() {
        java.util.Arrays.fill(register, 0);
        java.util.Arrays.fill(memory, 0);
        zero = carry = counter = link = out = outs = 0;
        halted = false;
    }

    int cycle(int n) {
        int done = 0;
        while (done < Math.min(n, 60) && !halted) {
            step();
            done++;
        }
        return done;
    }

    private void step() {
        int w = word[counter];
        int op = w % 16;
        int d = w / 16 % 4;
        int m = w / 256;
        int r = register[d];
        int s = register[w / 64 % 4];
        int goesTo = (counter + 1) % 32;
        int oldCarry = carry;
        boolean namesZero = op >= 3 && op <= 9;
        if (op == 0) {
            halted = true;
            goesTo = counter;
        } else if (op == 1) {
            register[d] = m;
        } else if (op == 2) {
            register[d] = m % 4 == 0 ? s : m % 4 == 1 ? r * s % 256 : m % 4 == 2 ? r * s / 256 : turned(s);
        } else if (op == 3 || op == 4) {
            int sum = r + s + (op == 4 ? oldCarry : 0);
            register[d] = sum % 256;
            carry = sum / 256;
        } else if (op == 5) {
            register[d] = r < s ? r - s + 256 : r - s;
            carry = r < s ? 1 : 0;
        } else if (op <= 8) {
            register[d] = bitByBit(op, r, s);
        } else if (op == 9) {
            int comesIn = m % 4 >= 2 ? oldCarry : 0;
            register[d] = m % 2 == 0 ? r * 2 % 256 + comesIn : r / 2 + 128 * comesIn;
            carry = m % 2 == 0 ? r / 128 : r % 2;
        } else if (op == 10) {
            register[d] = memory[(s + m) % 16];
        } else if (op == 11) {
            memory[(s + m) % 16] = r;
        } else if (op == 12) {
            goesTo = m % 32;
        } else if (op == 13) {
            int flag = d < 2 ? zero : carry;
            goesTo = flag + d % 2 == 1 ? m % 32 : goesTo;
        } else if (op == 14) {
            int old = link;
            link = m < 128 ? goesTo : link;
            goesTo = m < 128 ? m % 32 : old;
        } else if (m % 2 == 0) {
            register[d] = in;
        } else {
            out = r;
            outs = (outs + 1) % 256;
        }
        if (namesZero) {
            zero = register[d] == 0 ? 1 : 0;
        }
        counter = goesTo;
    }

    private static int turned(int s) {
        String bits = Integer.toBinaryString(256 + s).substring(1);
        return Integer.parseInt(new StringBuilder(bits).reverse().toString(), 2);
    }

    private static int bitByBit(int op, int r, int s) {
        int value = 0;
        for (int weight = 1; weight < 256; weight *= 2) {
            int both = r / weight % 2 + s / weight % 2;
            boolean set = op == 6 ? both == 2 : op == 7 ? both > 0 : both == 1;
            value += set ? weight : 0;
        }
        return value;
    }

    String state() {
        StringBuilder text = new StringBuilder("registers");
        for (int v : register) {
            text.append(' ').append(v);
        }
        text.append(", memory");
        for (int v : memory) {
            text.append(' ').append(v);
        }
        return text + ", flags " + (zero + 2 * carry) + ", counter " + counter + ", link " + link
            + ", out " + out + ", outs " + outs + ", halted " + halted;
    }
}
