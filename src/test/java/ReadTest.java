/** Promise 3: read, and how a text is read as a program. */
public final class ReadTest {
    private static final String ZERO = Code.natural(0);

    public static void main(String[] args) {
        kinds();
        naturals();
        numbers();
        tooMany();
        tooDeep();
        variables();
        operations();
        endings();
        missing();
        firstWrong();
        whatStays();
        Check.close("ReadTest");
    }

    private static void reads(String what, String term, int want) {
        TermMachine x = new TermMachine();
        Check.due(what, Code.read(x, Code.program(0, term)), want);
        Check.due(what + ": about(0)", x.about(0), 0);
        Check.due(what + ": about(1)", x.about(1), want);
        Check.due(what + ": about(3)", x.about(3), 0);
    }

    /** The place is that of the wrong bit in the whole row. */
    private static void wrong(String what, String row, int place) {
        TermMachine x = new TermMachine();
        Check.due(what, Code.read(x, row), -1 - place);
        Check.due(what + ": about(0)", x.about(0), 0);
        Check.due(what + ": about(1)", x.about(1), 0);
        Check.badState(what + ": begin", () -> x.begin(1) ? 1 : 0);
    }

    private static void kinds() {
        reads("variable", Code.lambda(Code.variable(1)), 2);
        reads("delay", Code.delay(Code.error()), 2);
        reads("apply", Code.apply(Code.error(), Code.error()), 3);
        reads("force", Code.force(Code.operation(11)), 2);
        reads("number", Code.number(0), 1);
        reads("truth", Code.truth(true), 1);
        reads("unit", Code.unit(), 1);
        reads("no bytes", Code.bytes(), 1);
        reads("7 bytes", Code.bytes(1, 2, 3, 4, 5, 6, 255), 1);
        reads("a tree", Code.apply(Code.apply(Code.unit(), Code.unit()),
            Code.apply(Code.unit(), Code.unit())), 7);
    }

    private static void naturals() {
        String group = "10000000";
        long[] versions = {0, 1, 127, 128, 16383, 16384, 2147483647L};
        for (long version : versions) {
            TermMachine x = new TermMachine();
            Check.due("version " + version, Code.read(x, Code.program(version, Code.unit())), 1);
            Check.due("version " + version + ": about(2)", x.about(2), version);
        }
        TermMachine x = new TermMachine();
        Check.due("0 in 5 groups", Code.read(x, Code.ended(group.repeat(4) + ZERO + "110")), 1);
        Check.due("0 in 5 groups: about(2)", x.about(2), 0);
        wrong("2^31", Code.program(2147483648L, Code.unit()), 39);
        wrong("2^31, and a group behind", group.repeat(4) + "10001000" + ZERO, 39);
        wrong("a sixth group", Code.ended(group.repeat(5) + ZERO + "110"), 40);
        wrong("a sixth group that is not there", group.repeat(5), 40);
        wrong("a number too large", Code.ended(ZERO + "10000" + Code.natural(1L << 34)), 52);
        wrong("k too large", Code.ended(ZERO + "010000" + Code.natural(1L << 31)), 53);
        wrong("k with a sixth group", ZERO + "010000" + group.repeat(6), 54);
    }

    private static void numbers() {
        long[] all = {0, 1, -1, 63, -64, 64, -65, 1073741823, -1073741824};
        for (long n : all) {
            Check.tells("number " + n, Code.ran(Code.number(n), 9), 4, 0, (int) n);
        }
    }

    private static void tooMany() {
        reads("59 terms", full(59), 59);
        reads("60 terms", Code.delay(full(59)), 60);
        // Each term there has 3 bits.
        int last = 8 + 3 * 61 - 1;
        wrong("61 terms", Code.program(0, full(61)), last);
        wrong("62 terms", Code.program(0, Code.delay(full(61))), last);
        String long61 = ZERO + "011" + Code.truth(true) + full(59);
        wrong("60 terms and 1 bit", long61.substring(0, 192), 192);
        wrong("60 terms and 3 bits", long61, 193);
    }

    // A tree of APPLYs over ERRORs, so that it is not deep; an odd number of terms.
    private static String full(int terms) {
        if (terms == 1) {
            return Code.error();
        }
        int left = (terms - 1) / 2;
        left = left % 2 == 0 ? left - 1 : left;
        return "011" + full(left) + full(terms - 1 - left);
    }

    private static void tooDeep() {
        String[] heads = {"001", "010", "101"};
        for (String head : heads) {
            reads("in 20 others", Code.within(20, head, Code.error()), 21);
            wrong("in 21 others", Code.program(0, Code.within(21, head, Code.error())), 8 + 65);
            wrong("in 30 others", Code.program(0, Code.within(30, head, Code.error())), 8 + 65);
        }
        String left = Code.within(20, "011", "110".repeat(21));
        reads("20 applied", left, 41);
        wrong("21 applied", Code.program(0, Code.within(21, "011", "110".repeat(22))), 8 + 65);
        String right = "011110".repeat(20) + "110";
        reads("20 arguments", right, 41);
        wrong("21 arguments", Code.program(0, "011110".repeat(21) + "110"), 8 + 6 * 20 + 5);
    }

    private static void variables() {
        reads("k 1 of 1", Code.lambda(Code.variable(1)), 2);
        reads("k 2 of 2", Code.lambda(Code.lambda(Code.variable(2))), 3);
        reads("k 20 of 20", Code.within(20, "010", Code.variable(20)), 21);
        wrong("k 1 of 0", Code.program(0, Code.variable(1)), 8 + 10);
        wrong("k 0 of 1", Code.program(0, Code.lambda(Code.variable(0))), 8 + 13);
        wrong("k 2 of 1", Code.program(0, Code.lambda(Code.variable(2))), 8 + 13);
        wrong("k 129 of 1", Code.program(0, Code.lambda(Code.variable(129))), 8 + 21);
        wrong("k 1 beside", Code.program(0,
            Code.apply(Code.lambda(Code.variable(1)), Code.variable(1))), 8 + 27);
        wrong("a delay is no lambda", Code.program(0, Code.delay(Code.variable(1))), 8 + 13);
    }

    private static void operations() {
        for (int n = 0; n < 16; n++) {
            if (n <= 11) {
                reads("operation " + n, Code.operation(n), 1);
            } else {
                wrong("operation " + n, Code.program(0, Code.operation(n)), 8 + 6);
            }
        }
    }

    private static void endings() {
        reads("a whole byte", Code.bytes(9), 1);
        reads("the 1 alone", Code.operation(3), 1);
        wrong("no 1", ZERO + "11000000", 15);
        wrong("1 too early", ZERO + "11000101", 13);
        wrong("1 at once", ZERO + "11010001", 11);
        wrong("0 for the 1 alone", ZERO + "11100110", 15);
        wrong("no byte for the 1", ZERO + Code.bytes(9), 24);
        wrong("a whole byte of 0", ZERO + Code.bytes(9) + "00000000", 31);
        wrong("a whole byte, 1 too early", ZERO + Code.bytes(9) + "10000000", 24);
        wrong("a byte too much", ZERO + "11000001" + "00000001", 16);
        wrong("five bytes too much", ZERO + "11000001" + "1".repeat(40), 16);
        wrong("no 1, and too much", ZERO + "11000000" + "00000001", 15);
    }

    private static void missing() {
        wrong("nothing", "", 0);
        wrong("half a version", "10000001", 8);
        wrong("no term", ZERO, 8);
        wrong("no term to delay", ZERO + "00100100", 16);
        wrong("no second term", ZERO + "011" + Code.operation(4) + "001001", 24);
        wrong("half a k", ZERO + "01000000", 16);
        wrong("a group of k", ZERO + "010000" + "1000000100", 24);
        wrong("half a number", ZERO + "10000" + "110000001" + "00", 24);
        wrong("some bytes", ZERO + "10011" + "111" + "00000000".repeat(6), 64);
        wrong("no bit of truth", ZERO + "011" + Code.unit() + "001" + "10001", 24);
        wrong("half an operation", ZERO + "001" + "11101", 16);
    }

    private static void firstWrong() {
        wrong("k ahead of operation", Code.program(0,
            Code.apply(Code.variable(1), Code.operation(15))), 8 + 13);
        wrong("operation ahead of k", Code.program(0,
            Code.apply(Code.operation(15), Code.variable(1))), 8 + 9);
        wrong("k ahead of what is missing", ZERO + Code.apply(Code.variable(1), "") + "00", 8 + 13);
    }

    private static void whatStays() {
        TermMachine x = new TermMachine();
        Code.read(x, Code.program(7, Code.apply(Code.lambda(Code.variable(1)), Code.number(3))));
        x.begin(100);
        x.run(2);
        Check.due("wrong", Code.read(x, Code.program(9, Code.variable(1))), -19);
        Check.due("terms stay", x.about(1), 4);
        Check.due("version stays", x.about(2), 7);
        Check.stands("state stays", x, 2, 2, 2, 1, 1, 0);
        Check.due("goes on", x.run(100), 5);
        Check.tells("its result", x, 4, 0, 3);
        Check.due("empty", x.read(), -1);
        Check.tells("its result stays", x, 4, 0, 3);
        Check.due("another one", Code.read(x, Code.program(1, Code.unit())), 1);
        Check.due("its version", x.about(2), 1);
        Check.stands("not begun", x, 0, 0, 0, 0, 0, 0);
        Check.tells("not begun", x);
        Check.badState("not begun", () -> x.run(1));
    }
}
