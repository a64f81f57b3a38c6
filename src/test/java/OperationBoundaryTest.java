/**
 * The section "Terms", operations and their costs: the ranges of numbers, bytes and what they refuse.
 * The comments are the document's words.
 */
public final class OperationBoundaryTest {
    private static final long LEAST = -2147483648L;
    private static final long MOST = 2147483647L;
    private static final int[] FORCES = {0, 0, 0, 0, 0, 0, 1, 0, 0, 0, 1, 0};
    private static final int[] COSTS = {2, 2, 4, 4, 2, 2, 1, 1, 1, 1, 1, 2};

    // One of each kind of value; bytes at 3, which are two.
    private static final String[] KINDS = {Code.number(1), Code.truth(true), Code.unit(),
        Code.bytes(8, 9), Code.delay(Code.number(1)), Code.lambda(Code.number(1)), Code.operation(8),
        Code.apply(Code.operation(0), Code.number(1)), Code.force(Code.operation(10))};
    private static final int NUMBER = 0;
    private static final int TRUTH = 1;
    private static final int UNIT = 2;
    private static final int BYTES = 3;
    private static final int ANY = -1;
    private static final int[][] WANTED = {
        {NUMBER, NUMBER}, {NUMBER, NUMBER}, {NUMBER, NUMBER}, {NUMBER, NUMBER}, {NUMBER, NUMBER},
        {NUMBER, NUMBER}, {TRUTH, ANY, ANY}, {BYTES, BYTES}, {BYTES}, {BYTES, NUMBER}, {UNIT, ANY},
        {BYTES, BYTES}};

    public static void main(String[] args) {
        sums();
        differences();
        products();
        quotients();
        equals();
        below();
        choices();
        joined();
        howMany();
        byteAt();
        sequences();
        same();
        kindsOfArguments();
        costs();
        costsOfBytes();
        Check.close("OperationBoundaryTest");
    }

    private static String term(int operation, String... arguments) {
        String head = Code.operation(operation);
        return Code.apply(FORCES[operation] == 1 ? Code.force(head) : head, arguments);
    }

    private static String numbers(int operation, long one, long other) {
        return term(operation, Code.integer(one), Code.integer(other));
    }

    private static void gives(String term, int... numbers) {
        TermMachine x = Code.ran(term, 100000);
        Check.due(term + ": about(3)", x.about(3), 11);
        Check.tells(term, x, numbers);
    }

    private static void fails(String term) {
        TermMachine x = Code.ran(term, 100000);
        Check.due(term + ": about(3)", x.about(3), 14);
        Check.tells(term, x);
    }

    private static void number(int operation, long one, long other, long want) {
        gives(numbers(operation, one, other), 4, 0, (int) want);
    }

    private static void truth(int operation, long one, long other, boolean want) {
        gives(numbers(operation, one, other), 4, 1, want ? 1 : 0);
    }

    // "0 sum .. of two numbers (ended, 4, outside of -2^31 .. 2^31-1)"
    private static void sums() {
        number(0, MOST, 0, MOST);
        number(0, MOST - 1, 1, MOST);
        number(0, MOST, LEAST, -1);
        number(0, LEAST, 0, LEAST);
        number(0, LEAST + 1, -1, LEAST);
        number(0, 0, LEAST, LEAST);
        fails(numbers(0, MOST, 1));
        fails(numbers(0, 1, MOST));
        fails(numbers(0, MOST, MOST));
        fails(numbers(0, LEAST, -1));
        fails(numbers(0, -1, LEAST));
        fails(numbers(0, LEAST, LEAST));
    }

    // "1 difference"
    private static void differences() {
        number(1, MOST, 0, MOST);
        number(1, MOST - 1, -1, MOST);
        number(1, 0, MOST, -MOST);
        number(1, -1, MOST, LEAST);
        number(1, -1, LEAST, MOST);
        number(1, LEAST, LEAST, 0);
        number(1, LEAST + 1, 1, LEAST);
        fails(numbers(1, MOST, -1));
        fails(numbers(1, 0, LEAST));
        fails(numbers(1, MOST, LEAST));
        fails(numbers(1, LEAST, 1));
        fails(numbers(1, -2, MOST));
        fails(numbers(1, LEAST, MOST));
    }

    // "2 product of two numbers"
    private static void products() {
        number(2, MOST, 1, MOST);
        number(2, MOST, -1, -MOST);
        number(2, 1, LEAST, LEAST);
        number(2, LEAST, 0, 0);
        number(2, 2, 1073741823, MOST - 1);
        number(2, 65536, -32768, LEAST);
        number(2, -46340, -46340, 2147395600L);
        fails(numbers(2, 46341, 46341));
        fails(numbers(2, 65536, 32768));
        fails(numbers(2, LEAST, -1));
        fails(numbers(2, -1, LEAST));
        // -2^31 - 1.
        fails(numbers(2, -3, 715827883));
        // 0 and 1, if the numbers wrapped around.
        fails(numbers(2, 65536, 65536));
        fails(numbers(2, LEAST, 2));
        fails(numbers(2, MOST, MOST));
        fails(numbers(2, LEAST, LEAST));
        fails(numbers(2, LEAST, MOST));
    }

    // "3 quotient towards 0 (4 by 0, or too large)"
    private static void quotients() {
        number(3, 7, 2, 3);
        number(3, -7, 2, -3);
        number(3, 7, -2, -3);
        number(3, -7, -2, 3);
        number(3, 1, 2, 0);
        number(3, -1, 2, 0);
        number(3, 0, -1, 0);
        number(3, MOST, 1, MOST);
        number(3, MOST, -1, -MOST);
        number(3, LEAST, 1, LEAST);
        number(3, LEAST + 1, -1, MOST);
        number(3, LEAST, -2, 1073741824);
        number(3, LEAST, LEAST, 1);
        number(3, MOST, LEAST, 0);
        number(3, LEAST, MOST, -1);
        fails(numbers(3, LEAST, -1));
        long[] all = {0, 1, -1, MOST, LEAST};
        for (long n : all) {
            fails(numbers(3, n, 0));
        }
    }

    // "4 whether two numbers are equal"
    private static void equals() {
        long[] all = {LEAST, LEAST + 1, -1, 0, 1, 255, 256, MOST - 1, MOST};
        for (long one : all) {
            for (long other : all) {
                truth(4, one, other, one == other);
            }
        }
    }

    // "5 whether one is below another one"
    private static void below() {
        long[] all = {LEAST, LEAST + 1, -1, 0, 1, MOST - 1, MOST};
        for (long one : all) {
            for (long other : all) {
                truth(5, one, other, one < other);
            }
        }
    }

    // "6, with a force: of a truth, ANY, ANY: the second if it is true, else the third"
    private static void choices() {
        for (String any : KINDS) {
            gives(term(6, Code.truth(true), Code.number(5), any), 4, 0, 5);
            gives(term(6, Code.truth(false), any, Code.number(6)), 4, 0, 6);
        }
        gives(term(6, Code.truth(true), Code.delay(Code.error()), Code.unit()), 1, 6);
        gives(term(6, Code.truth(false), Code.unit(), Code.operation(3)), 7, 3);
        // A truth that an operation gave.
        gives(term(6, numbers(5, 1, 2), Code.number(5), Code.number(6)), 4, 0, 5);
        gives(term(6, numbers(5, 2, 2), Code.number(5), Code.number(6)), 4, 0, 6);
    }

    private static int[] row(int many) {
        int[] all = new int[many];
        for (int i = 0; i < many; i++) {
            all[i] = 254 - 20 * i;
        }
        return all;
    }

    private static String bytes(int many) {
        return Code.bytes(row(many));
    }

    // "7 the bytes of two behind each other (4 if more than 7)"
    private static void joined() {
        for (int one = 0; one <= 7; one++) {
            for (int other = 0; other <= 7; other++) {
                String term = term(7, bytes(one), bytes(other));
                if (one + other > 7) {
                    fails(term);
                } else {
                    int[] told = new int[3 + one + other];
                    told[0] = 4;
                    told[1] = 3;
                    told[2] = one + other;
                    System.arraycopy(row(one), 0, told, 3, one);
                    System.arraycopy(row(other), 0, told, 3 + one, other);
                    gives(term, told);
                }
            }
        }
    }

    // "8 how many bytes"
    private static void howMany() {
        for (int many = 0; many <= 7; many++) {
            gives(term(8, bytes(many)), 4, 0, many);
        }
        gives(term(8, term(7, bytes(3), bytes(4))), 4, 0, 7);
        gives(term(8, term(7, bytes(0), bytes(0))), 4, 0, 0);
    }

    // "9 byte n of bytes (bytes, number; 4 if there is none)"
    private static void byteAt() {
        for (int many = 0; many <= 7; many++) {
            fails(term(9, bytes(many), Code.number(-1)));
            for (int n = 0; n < many; n++) {
                gives(term(9, bytes(many), Code.number(n)), 4, 0, 254 - 20 * n);
            }
            long[] none = {many, many + 1, 8, 64, 256, MOST, LEAST, LEAST + 1};
            for (long n : none) {
                fails(term(9, bytes(many), Code.integer(n)));
            }
        }
        String joined = term(7, bytes(2), bytes(1));
        gives(term(9, joined, Code.number(2)), 4, 0, 254);
        fails(term(9, joined, Code.number(3)));
        gives(term(9, Code.bytes(0), Code.number(0)), 4, 0, 0);
    }

    // "10, with a force: of UNIT and ANY: the ANY"
    private static void sequences() {
        gives(term(10, Code.unit(), Code.number(1)), 4, 0, 1);
        gives(term(10, Code.unit(), Code.truth(true)), 4, 1, 1);
        gives(term(10, Code.unit(), Code.unit()), 4, 2);
        gives(term(10, Code.unit(), Code.bytes(8, 9)), 4, 3, 2, 8, 9);
        gives(term(10, Code.unit(), Code.delay(Code.error())), 1, 6);
        gives(term(10, Code.unit(), Code.lambda(Code.error())), 2, 6);
        gives(term(10, Code.unit(), Code.operation(10)), 7, 10);
    }

    // "11 whether two bytes are the same"
    private static void same() {
        int[][] all = {{}, {0}, {0, 0}, {1}, {0, 1}, {1, 0}, {255}, {1, 2, 3, 4, 5, 6, 7},
            {1, 2, 3, 4, 5, 6, 8}, {2, 2, 3, 4, 5, 6, 7}, {0, 0, 0, 0, 0, 0}, {0, 0, 0, 0, 0, 0, 0}};
        for (int[] one : all) {
            for (int[] other : all) {
                gives(term(11, Code.bytes(one), Code.bytes(other)), 4, 1, one == other ? 1 : 0);
            }
        }
        gives(term(11, term(7, Code.bytes(1), Code.bytes(2)), Code.bytes(1, 2)), 4, 1, 1);
        gives(term(11, term(7, Code.bytes(1), Code.bytes(2)), Code.bytes(2, 1)), 4, 1, 0);
    }

    // "(all of the kinds that are named, else 4; ANY is any value)"
    private static void kindsOfArguments() {
        for (int operation = 0; operation <= 11; operation++) {
            int[] wanted = WANTED[operation];
            for (int i = 0; i < wanted.length; i++) {
                for (int kind = 0; kind < KINDS.length; kind++) {
                    String[] arguments = fitting(operation);
                    arguments[i] = KINDS[kind];
                    TermMachine x = Code.ran(term(operation, arguments), 1000);
                    boolean fits = wanted[i] == ANY || wanted[i] == kind;
                    Check.due("operation " + operation + ", argument " + i + " of kind " + kind,
                        x.about(3), fits ? 11 : 14);
                }
            }
        }
    }

    private static String[] fitting(int operation) {
        int[] wanted = WANTED[operation];
        String[] arguments = new String[wanted.length];
        for (int i = 0; i < wanted.length; i++) {
            arguments[i] = wanted[i] == ANY ? Code.unit() : KINDS[wanted[i]];
        }
        return arguments;
    }

    // "doing an operation besides that: 0, 1, 4, 5: 2; 2, 3: 4; .. 6, 8, 10: 1; 11: 2 (also if it
    // ends with 4)"
    private static void costs() {
        for (int operation = 0; operation <= 11; operation++) {
            String[] arguments = fitting(operation);
            boolean perByte = operation == 7 || operation == 9;
            int cost = COSTS[operation] + (perByte ? 2 : 0) + (operation == 7 ? 2 : 0);
            costs(operation, cost, 2, arguments);
            // With a DELAYED first argument it ends with 4; its bytes cost nothing then.
            arguments[0] = Code.delay(Code.bytes(1, 2, 3));
            costs(operation, cost - (perByte ? 2 : 0), 4, arguments);
        }
        costs(0, 2, 4, Code.number(1), Code.bytes(1, 2, 3));
        costs(3, 4, 4, Code.number(1), Code.number(0));
        costs(11, 2, 2, bytes(7), bytes(7));
        costs(8, 1, 2, bytes(7));
    }

    // "7, 9: 1 and 1 for each byte of its arguments that are bytes"
    private static void costsOfBytes() {
        for (int many = 0; many <= 7; many++) {
            costs(7, 1 + many, 2, bytes(many), bytes(0));
            costs(7, 1 + many, 2, bytes(0), bytes(many));
            costs(7, 1 + many + 7, many == 0 ? 2 : 4, bytes(many), bytes(7));
            costs(7, 1 + many, 4, bytes(many), Code.number(7));
            costs(7, 1 + many, 4, Code.unit(), bytes(many));
            costs(9, 1 + many, many > 0 ? 2 : 4, bytes(many), Code.number(0));
            costs(9, 1 + many, 4, bytes(many), Code.number(many));
            costs(9, 1 + many, 4, Code.number(0), bytes(many));
            costs(9, 1 + many + 7, 4, bytes(many), bytes(7));
        }
        costs(7, 1, 4, Code.unit(), Code.unit());
        costs(9, 1, 4, Code.number(0), Code.number(0));
        // A number is not bytes, whatever its bits are.
        costs(7, 3, 4, bytes(2), Code.number(-1));
        costs(9, 3, 4, bytes(2), Code.number(-1));
        costs(9, 1, 4, Code.number(-1), Code.number(-1));
        // The bytes of an operation that was done before are none of its arguments.
        String choice = term(6, Code.truth(true), bytes(1), bytes(5));
        TermMachine x = Code.ran(term(7, choice, bytes(2)), 1000);
        Check.stands("joined behind a choice", x, 11, 24, 24 + 1 + 4, 0, 13, 6);
    }

    /**
     * Arguments of one step and one value each. With just enough for the step that does it, it returns
     * (then, 2) or has failed (then, 4); with 1 less it is over the budget, and nothing is made.
     */
    private static void costs(int operation, int cost, int then, String... arguments) {
        String term = term(operation, arguments);
        String what = "costs of " + term;
        int ahead = 4 * arguments.length + 2 * FORCES[operation];
        int made = FORCES[operation] + 2 * arguments.length;
        int given = then == 4 || operation == 6 || operation == 10 ? 0 : 1;
        TermMachine x = Code.begun(term, ahead + 1 + cost);
        Check.due(what + ": run", x.run(ahead + 1), ahead + 1);
        Check.stands(what, x, then == 4 ? 14 : 2, ahead + 1, ahead + 1 + cost, 0, made + 1 + given, 0);
        TermMachine y = Code.begun(term, ahead + cost);
        Check.due(what + " and 1 less: run", y.run(100), ahead + 1);
        Check.stands(what + " and 1 less", y, 15, ahead + 1, ahead, 1, made, 0);
    }
}
