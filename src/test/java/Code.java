/** Writes terms as rows of bits ('0' and '1') and brings them to a machine. */
final class Code {
    private Code() {
    }

    static String bits(long value, int many) {
        StringBuilder row = new StringBuilder();
        for (int i = many - 1; i >= 0; i--) {
            row.append((value >> i) & 1);
        }
        return row.toString();
    }

    static String natural(long n) {
        StringBuilder row = new StringBuilder();
        long rest = n;
        do {
            row.append(rest > 127 ? 1 : 0).append(bits(rest & 127, 7));
            rest >>= 7;
        } while (rest > 0);
        return row.toString();
    }

    /** The number in so many groups, also if fewer would do. */
    static String groups(long n, int many) {
        StringBuilder row = new StringBuilder();
        for (int i = 0; i < many; i++) {
            row.append(i < many - 1 ? 1 : 0).append(bits(n >> (7 * i), 7));
        }
        return row.toString();
    }

    static String variable(long k) {
        return "000" + natural(k);
    }

    static String delay(String term) {
        return "001" + term;
    }

    static String lambda(String term) {
        return "010" + term;
    }

    static String apply(String function, String... arguments) {
        String row = function;
        for (String argument : arguments) {
            row = "011" + row + argument;
        }
        return row;
    }

    static String number(long n) {
        return "10000" + natural(n >= 0 ? 2 * n : -2 * n - 1);
    }

    static String truth(boolean b) {
        return "10001" + (b ? "1" : "0");
    }

    static String unit() {
        return "10010";
    }

    static String bytes(int... all) {
        StringBuilder row = new StringBuilder("10011").append(bits(all.length, 3));
        for (int one : all) {
            row.append(bits(one, 8));
        }
        return row.toString();
    }

    static String force(String term) {
        return "101" + term;
    }

    static String error() {
        return "110";
    }

    static String operation(int n) {
        return "111" + bits(n, 4);
    }

    /** A term in so many others, all of them alike (three bits each). */
    static String within(int others, String head, String term) {
        return head.repeat(others) + term;
    }

    /** So many leaves, all alike, under APPLYs: not deep. */
    static String tree(int leaves, String leaf) {
        if (leaves == 1) {
            return leaf;
        }
        return "011" + tree(leaves / 2, leaf) + tree(leaves - leaves / 2, leaf);
    }

    /** A term that gives the number, also one that no constant can be. */
    static String integer(long n) {
        if (n >= -(1 << 30) && n < 1 << 30) {
            return number(n);
        }
        long half = n >> 1;
        return n < 0 ? apply(operation(0), number(half), number(n - half))
            : apply(operation(1), number(half), number(half - n));
    }

    static String program(long version, String term) {
        return ended(natural(version) + term);
    }

    static String ended(String row) {
        return row + "0".repeat(7 - row.length() % 8) + "1";
    }

    /**
     * Bits that fill no whole byte are filled up with 0. Four bytes a call, because an object has only
     * 512 calls and some tests ask for 400 numbers.
     */
    static void feed(TermMachine x, String row) {
        String whole = row + "0".repeat((8 - row.length() % 8) % 8);
        for (int i = 0; i < whole.length(); i += 32) {
            String part = whole.substring(i, Math.min(i + 32, whole.length()));
            x.text(Integer.parseUnsignedInt(part, 2), part.length() / 8);
        }
    }

    static int read(TermMachine x, String row) {
        feed(x, row);
        return x.read();
    }

    static TermMachine begun(String term, int budget) {
        TermMachine x = new TermMachine();
        if (read(x, program(0, term)) < 1) {
            throw new IllegalStateException("no program: " + term);
        }
        x.begin(budget);
        return x;
    }

    /** Begun with the budget, and run until it ends. */
    static TermMachine ran(String term, int budget) {
        TermMachine x = begun(term, budget);
        finish(x);
        return x;
    }

    static void finish(TermMachine x) {
        for (int i = 0; i < 400 && x.about(3) < 10; i++) {
            x.run(100);
        }
    }
}
