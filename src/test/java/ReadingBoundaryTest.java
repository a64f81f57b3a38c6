/**
 * The section "Terms", the text and its reading: for each sentence that names a boundary, the last
 * text on the one side and the first on the other. The comments are the document's words.
 */
public final class ReadingBoundaryTest {
    private static final String ZERO = Code.natural(0);
    private static final String UNIT = Code.unit();
    private static final String ERROR = Code.error();
    private static final long NATURAL_MOST = 2147483647L;
    private static final String[] LEAVES = {
        Code.number(0), Code.number(-1073741824), Code.truth(true), UNIT, Code.bytes(),
        Code.bytes(1, 2, 3, 4, 5, 6, 7), ERROR, Code.operation(0), Code.operation(11)};

    public static void main(String[] args) {
        eightyBytes();
        bytesOfAllValues();
        oneToFiveGroups();
        largestNatural();
        sixthGroup();
        kindsOfTerms();
        rangeOfNumbers();
        howManyBytes();
        sixtyTerms();
        twentyOthers();
        variables();
        lambdasAround();
        fourBits();
        endings();
        missing();
        emptyText();
        tooMuch();
        firstThing();
        Check.close("ReadingBoundaryTest");
    }

    private static TermMachine reads(String what, String row, int terms) {
        TermMachine x = new TermMachine();
        Check.due(what + ": read()", Code.read(x, row), terms);
        Check.due(what + ": about(0)", x.about(0), 0);
        Check.due(what + ": about(1)", x.about(1), terms);
        Check.due(what + ": begin", x.begin(9) ? 1 : 0, 1);
        return x;
    }

    private static void wrong(String what, String row, int place) {
        TermMachine x = new TermMachine();
        Check.due(what + ": read()", Code.read(x, row), -1 - place);
        Check.due(what + ": about(0)", x.about(0), 0);
        Check.due(what + ": about(1)", x.about(1), 0);
        Check.due(what + ": about(2)", x.about(2), 0);
        Check.badState(what + ": begin", () -> x.begin(9) ? 1 : 0);
    }

    // "A TEXT is a row of at most 80 bytes"
    private static void eightyBytes() {
        String seven = Code.bytes(255, 0, 255, 0, 255, 0, 129);
        String row = Code.program(0, Code.within(9, "001", Code.tree(9, seven)));
        Check.due("bits of the longest text", row.length(), 640);
        TermMachine x = reads("80 bytes", row, 26);
        x.run(9);
        Check.due("80 bytes: its last number", x.told(x.about(8) - 1), 129);
        Check.due("80 bytes: its last but one", x.told(x.about(8) - 2), 0);
        TermMachine y = new TermMachine();
        Code.feed(y, row);
        Check.badState("an 81st byte", () -> y.text(1, 1));
        Check.due("80 bytes stay: read()", y.read(), 26);
        wrong("80 bytes without the 1", row.substring(0, 639) + "0", 639);
        String more = Code.program(0, Code.within(11, "001", Code.tree(9, seven)));
        wrong("what is missing behind 80 bytes", more.substring(0, 640), 640);
        String less = Code.program(0, Code.within(6, "001", Code.tree(9, seven)));
        Check.due("bits of one shorter", less.length(), 632);
        wrong("an 80th byte that is too much", less + "00000001", 632);
    }

    // "bytes (0 .. 255); its BITS are those of the bytes, the highest of each first"
    private static void bytesOfAllValues() {
        for (int one = 0; one < 256; one++) {
            TermMachine x = reads("byte " + one, Code.program(0, Code.bytes(one)), 1);
            x.run(9);
            Check.tells("byte " + one, x, 4, 3, 1, one);
        }
    }

    // "A NATURAL is up to 5 groups of 7 bits, the lowest group first, each led by a bit that is 1
    // if another group follows"
    private static void oneToFiveGroups() {
        for (int many = 1; many <= 5; many++) {
            long most = Math.min(NATURAL_MOST, (1L << (7 * many)) - 1);
            long[] all = {0, 1, 127, most - 1, most};
            for (long n : all) {
                version(n, many);
                number(n, many);
            }
            String variable = "010" + "000" + Code.groups(1, many);
            reads("k in " + many + " groups", Code.ended(ZERO + variable), 2);
            String none = "010" + "000" + Code.groups(0, many);
            wrong("k 0 in " + many + " groups", Code.ended(ZERO + none), 13 + 8 * many);
        }
        // One more than fits into so many groups takes another one.
        for (int many = 1; many <= 4; many++) {
            version(1L << (7 * many), many + 1);
            number(1L << (7 * many), many + 1);
        }
    }

    private static void version(long n, int many) {
        String what = "version " + n + " in " + many + " groups";
        TermMachine x = reads(what, Code.ended(Code.groups(n, many) + UNIT), 1);
        Check.due(what + ": about(2)", x.about(2), n);
    }

    private static void number(long z, int many) {
        String what = "z " + z + " in " + many + " groups";
        TermMachine x = reads(what, Code.ended(ZERO + "10000" + Code.groups(z, many)), 1);
        x.run(9);
        Check.tells(what, x, 4, 0, (int) (z % 2 == 0 ? z / 2 : -(z + 1) / 2));
    }

    // "it must not be above 2147483647"; "the last bit of a group that makes a natural too large"
    private static void largestNatural() {
        long[] above = {NATURAL_MOST + 1, NATURAL_MOST + 128, (1L << 32) - 1, 1L << 32, 1L << 34,
            (1L << 35) - 1};
        String[] ahead = {"", ZERO + "10000", ZERO + "010000", ZERO + "001001" + "10000"};
        for (String row : ahead) {
            for (long n : above) {
                String what = n + " behind " + row.length() + " bits";
                wrong(what, Code.ended(row + Code.groups(n, 5) + UNIT), row.length() + 39);
                wrong(what + " alone", row + Code.groups(n, 5), row.length() + 39);
            }
        }
        wrong("the largest k", Code.ended(ZERO + "010000" + Code.groups(NATURAL_MOST, 5)), 53);
        wrong("too large, and its last bit missing",
            (ZERO + "001010000" + Code.groups((1L << 35) - 1, 5)).substring(0, 56), 56);
    }

    // "of a sixth group's leading bit (the bit behind the fifth one, which may make it too large
    // ahead of that)"
    private static void sixthGroup() {
        String[] ahead = {"", ZERO + "10000", ZERO + "010000"};
        for (String row : ahead) {
            for (int lead = 0; lead <= 1; lead++) {
                String what = "a sixth group, led by " + lead + ", behind " + row.length() + " bits";
                String sixth = lead + "0000000" + UNIT;
                wrong(what, row + five(0) + sixth, row.length() + 40);
                wrong(what + ", of the largest", row + five(NATURAL_MOST) + sixth, row.length() + 40);
                wrong(what + ", too large ahead", row + five(NATURAL_MOST + 1) + sixth,
                    row.length() + 39);
                wrong(what + ", far too large", row + five((1L << 35) - 1) + sixth, row.length() + 39);
            }
        }
        wrong("a sixth group that is missing", five(0), 40);
        wrong("a sixth group that is missing, too large ahead", five(NATURAL_MOST + 1), 39);
    }

    // Five groups, each of which says that another one follows.
    private static String five(long n) {
        return Code.groups(n, 6).substring(0, 40);
    }

    // "A TERM begins with 3 bits: 0 VARIABLE .. 7 OPERATION"; "TRUTH: a bit"
    private static void kindsOfTerms() {
        tells("0", "010" + "000" + "00000001", 2, 0, 1);
        tells("1", "001" + ERROR, 1, 6);
        tells("2", "010" + ERROR, 2, 6);
        tells("3", "001" + "011" + ERROR + UNIT, 1, 3, 6, 4, 2);
        tells("4 0", "100" + "00" + "00000110", 4, 0, 3);
        tells("4 1 0", "100" + "01" + "0", 4, 1, 0);
        tells("4 1 1", "100" + "01" + "1", 4, 1, 1);
        tells("4 2", "100" + "10", 4, 2);
        tells("4 3", "100" + "11" + "001" + "10000001", 4, 3, 1, 129);
        tells("5", "001" + "101" + ERROR, 1, 5, 6);
        tells("6", "001" + "110", 1, 6);
        tells("7", "111" + "0111", 7, 7);
    }

    private static void tells(String what, String term, int... numbers) {
        TermMachine x = new TermMachine();
        Code.read(x, Code.program(0, term));
        x.begin(9);
        x.run(9);
        Check.tells("kind " + what, x, numbers);
    }

    // "z / 2 if z is even, else -(z + 1) / 2 (so -2^30 .. 2^30 - 1)"
    private static void rangeOfNumbers() {
        tells("z 0", "10000" + Code.natural(0), 4, 0, 0);
        tells("z 1", "10000" + Code.natural(1), 4, 0, -1);
        tells("z 2", "10000" + Code.natural(2), 4, 0, 1);
        tells("z 3", "10000" + Code.natural(3), 4, 0, -2);
        tells("z 2^31 - 3", "10000" + Code.natural(NATURAL_MOST - 2), 4, 0, -1073741823);
        tells("z 2^31 - 2", "10000" + Code.natural(NATURAL_MOST - 1), 4, 0, 1073741823);
        tells("z 2^31 - 1", "10000" + Code.natural(NATURAL_MOST), 4, 0, -1073741824);
        wrong("z 2^31", Code.program(0, "10000" + Code.natural(NATURAL_MOST + 1)), 52);
    }

    // "BYTES: 3 bits, how many (0 to 7), and 8 bits each"
    private static void howManyBytes() {
        for (int many = 0; many <= 7; many++) {
            int[] all = new int[many];
            int[] told = new int[3 + many];
            told[0] = 4;
            told[1] = 3;
            told[2] = many;
            for (int i = 0; i < many; i++) {
                all[i] = 255 - i;
                told[3 + i] = 255 - i;
            }
            tells(many + " bytes", Code.bytes(all), told);
            String row = Code.program(0, Code.bytes(all));
            wrong(many + " bytes, the 1 missing", row.substring(0, 16 + 8 * many), 16 + 8 * many);
            if (many > 0) {
                wrong("one of " + many + " missing", row.substring(0, 8 + 8 * many), 8 + 8 * many);
            }
        }
    }

    // "There are at most 60 terms (each one within others counts)"; "of the 3 bits of a 61st term"
    private static void sixtyTerms() {
        String open59 = Code.tree(30, ERROR).substring(0, 3 * 58);
        String open61 = Code.tree(31, ERROR).substring(0, 3 * 60);
        for (String leaf : LEAVES) {
            reads("59th of " + leaf, Code.program(0, open59 + leaf), 59);
            reads("60th of " + leaf, Code.program(0, "001" + open59 + leaf), 60);
            wrong("61st of " + leaf, Code.program(0, open61 + leaf), 8 + 3 * 61 - 1);
            wrong("61st in three of " + leaf, Code.program(0, "001010" + open59 + leaf), 8 + 3 * 61 - 1);
        }
        reads("60th a variable", Code.program(0, "010" + open59 + Code.variable(1)), 60);
        wrong("61st a variable", Code.program(0, "010001" + open59 + Code.variable(1)), 8 + 3 * 61 - 1);
        wrong("61st a wrong variable", Code.program(0, open61 + Code.variable(1)), 8 + 3 * 61 - 1);
        wrong("61st a wrong operation", Code.program(0, open61 + "1111111"), 8 + 3 * 61 - 1);
        wrong("61st a delay", Code.program(0, open61 + "001" + ERROR), 8 + 3 * 61 - 1);
        for (int units = 0; units < 4; units++) {
            cutIn61st(ERROR, units);
            cutIn61st(Code.truth(true), units);
        }
    }

    // The text ends behind 1 to 8 bits of the 61st term, by what the leaves ahead of it take.
    private static void cutIn61st(String first, int units) {
        String row = Code.tree(31, "L").replaceFirst("L", first);
        for (int i = 0; i < units; i++) {
            row = row.replaceFirst("L", UNIT);
        }
        row = ZERO + row.replace("L", ERROR);
        int at = row.length() - 3;
        int cut = 8 * (at / 8 + 1);
        String what = "61st cut behind " + (cut - at) + " bits";
        wrong(what, (row + "000000").substring(0, cut), cut - at < 3 ? cut : at + 2);
    }

    // "in at most 20 others each"; "or one in 21 others"
    private static void twentyOthers() {
        String[] heads = {"001", "010", "101", "011"};
        for (String head : heads) {
            String close = head.equals("011") ? ERROR : "";
            for (String leaf : LEAVES) {
                int terms = 21 + 20 * close.length() / 3;
                reads("in 20 of " + head, Code.program(0, head.repeat(20) + leaf + close.repeat(20)), terms);
                wrong("in 21 of " + head, Code.program(0, head.repeat(21) + leaf + close.repeat(21)), 73);
            }
        }
        reads("a variable in 20", Code.program(0, "010".repeat(20) + Code.variable(20)), 21);
        wrong("a variable in 21", Code.program(0, "010".repeat(21) + Code.variable(21)), 73);
        String second = ("011" + ERROR).repeat(20);
        reads("second terms in 20", Code.program(0, second + UNIT), 41);
        wrong("second terms in 21", Code.program(0, second + "011" + ERROR + UNIT), 8 + 6 * 20 + 5);
        wrong("the second term in 21", Code.program(0, second + "001" + UNIT), 8 + 6 * 20 + 5);
        // Those that stand beside it are no others around it.
        reads("beside one in 20", Code.program(0, "011" + Code.within(19, "001", ERROR)
            + Code.within(19, "101", ERROR)), 41);
        wrong("the second one in 21", Code.program(0, "011" + Code.within(19, "001", ERROR)
            + Code.within(20, "101", ERROR)), 8 + 3 + 60 + 62);
        // 9 bytes end behind the first bit of its 3, 10 bytes behind all of them.
        String deep = ZERO + "001".repeat(21) + ERROR;
        wrong("in 21, cut in its 3 bits", deep.substring(0, 72), 72);
        wrong("in 21, cut behind its 3 bits", deep + "000000", 73);
    }

    // "a VARIABLE'S k is 1 .. the number of LAMBDAs around it"; "the last bit .. of k"
    private static void variables() {
        for (int lambdas = 0; lambdas <= 20; lambdas++) {
            String around = "010".repeat(lambdas);
            int place = 8 + 3 * lambdas + 3 + 7;
            wrong("k 0 of " + lambdas, Code.program(0, around + Code.variable(0)), place);
            for (int k = 1; k <= lambdas; k++) {
                reads("k " + k + " of " + lambdas, Code.program(0, around + Code.variable(k)), lambdas + 1);
            }
            wrong("k above " + lambdas, Code.program(0, around + Code.variable(lambdas + 1)), place);
            wrong("k 127 of " + lambdas, Code.program(0, around + Code.variable(127)), place);
            wrong("k 128 of " + lambdas, Code.program(0, around + Code.variable(128)), place + 8);
            // 2^32 and 1 would be 1 if the number wrapped around.
            wrong("k 2^32 + 1 of " + lambdas, Code.program(0, around + Code.variable((1L << 32) + 1)),
                place + 32);
        }
    }

    private static void lambdasAround() {
        String one = Code.variable(1);
        wrong("a delay around", Code.program(0, "001" + one), 8 + 13);
        wrong("a force around", Code.program(0, "101" + one), 8 + 13);
        wrong("an apply around", Code.program(0, "011" + one + UNIT), 8 + 13);
        reads("all of them around", Code.program(0, "001" + "010" + "101" + "011" + one + one), 6);
        wrong("k 2 in all of them", Code.program(0, "001" + "010" + "101" + "011" + one + Code.variable(2)),
            8 + 12 + 11 + 10);
        wrong("a lambda beside", Code.program(0, "011" + "010" + one + one), 8 + 6 + 11 + 10);
        reads("two, then one", Code.program(0, "010" + "011" + "010" + Code.variable(2) + one), 5);
        wrong("two of one behind two", Code.program(0, "010" + "011" + "010" + Code.variable(2)
            + Code.variable(2)), 8 + 9 + 11 + 10);
    }

    // "OPERATION: 4 bits, 0 to 11"; "of 4 bits above 11"
    private static void fourBits() {
        for (int delays = 0; delays <= 3; delays++) {
            String around = "001".repeat(delays);
            for (int n = 0; n <= 11; n++) {
                TermMachine x = reads("operation " + n, Code.program(0, around + Code.operation(n)), delays + 1);
                x.run(9);
                Check.due("operation " + n + ": told", x.told(delays + 1), n);
            }
            for (int n = 12; n <= 15; n++) {
                wrong("operation " + n, Code.program(0, around + Code.operation(n)), 8 + 3 * delays + 6);
            }
        }
    }

    // "then a 1 that is led by as many 0 (0 to 7) as it takes to end the last byte"; "of a bit that
    // is 0 at the end of its byte where the 1 should be, or 1 ahead of that"
    private static void endings() {
        for (int delays = 0; delays < 8; delays++) {
            String row = ZERO + "001".repeat(delays) + ERROR;
            int zeros = 7 - row.length() % 8;
            String what = zeros + " ahead of the 1";
            int last = row.length() + zeros;
            reads(what, row + "0".repeat(zeros) + "1", delays + 1);
            wrong(what + ", which is 0", row + "0".repeat(zeros) + "0", last);
            wrong(what + ", which is 0, and a byte behind", row + "0".repeat(zeros) + "0" + "00000001", last);
            for (int i = 0; i < zeros; i++) {
                String early = "0".repeat(i) + "1";
                String none = "0".repeat(zeros - i);
                String ones = "1".repeat(zeros - i);
                wrong(what + ", 1 at " + i, row + early + none.substring(1) + "1", row.length() + i);
                wrong(what + ", 1 at " + i + " alone", row + early + none, row.length() + i);
                wrong(what + ", 1 from " + i, row + early + ones, row.length() + i);
            }
        }
    }

    // "what is missing, wherever: the number of bits"
    private static void missing() {
        String[] more = {Code.apply(UNIT, ERROR), Code.lambda(Code.variable(1)),
            "010000" + Code.groups(1, 5), "10000" + Code.groups(NATURAL_MOST, 5), Code.tree(20, ERROR)};
        for (String leaf : LEAVES) {
            cutEverywhere(leaf);
        }
        for (String term : more) {
            cutEverywhere(term);
        }
        for (int many = 1; many <= 5; many++) {
            String row = Code.ended(Code.groups(5, many) + UNIT);
            for (int bytes = 0; 8 * bytes < row.length(); bytes++) {
                wrong("version cut at " + bytes, row.substring(0, 8 * bytes), 8 * bytes);
            }
        }
    }

    // Each DELAY ahead brings the cuts, which only stand between bytes, to other bits of the term.
    private static void cutEverywhere(String term) {
        for (int delays = 0; delays < 8; delays++) {
            String row = Code.program(0, "001".repeat(delays) + term);
            for (int bytes = 1; 8 * bytes < row.length(); bytes++) {
                wrong(row + " cut at " + bytes, row.substring(0, 8 * bytes), 8 * bytes);
            }
        }
    }

    // "(an empty text: -1)"
    private static void emptyText() {
        wrong("empty", "", 0);
        TermMachine x = new TermMachine();
        Code.read(x, Code.program(3, UNIT));
        Check.due("empty behind a program", x.read(), -1);
        Check.due("empty once more", x.read(), -1);
        Check.due("the program stays", x.about(1), 1);
        wrong("one byte", "00000000", 8);
    }

    // "behind it there is nothing"; "what is too much: that of the first bit behind"
    private static void tooMuch() {
        String[] behind = {"00000000", "00000001", "10000000", "11111111"};
        for (String leaf : LEAVES) {
            String row = Code.program(0, leaf);
            reads("nothing behind", row, 1);
            for (String one : behind) {
                wrong("a byte behind", row + one, row.length());
                wrong("two bytes behind", row + one + "00000001", row.length());
            }
        }
        String shortest = Code.program(0, ERROR);
        wrong("all of 80 bytes but 2 behind", shortest + "00000001".repeat(78), 16);
        wrong("another program behind", shortest + shortest, 16);
    }

    // "the first thing ends that cannot be"
    private static void firstThing() {
        String k = Code.variable(1);
        String twelve = Code.operation(12);
        wrong("k, then 12", Code.program(0, Code.apply(k, twelve)), 8 + 3 + 10);
        wrong("12, then k", Code.program(0, Code.apply(twelve, k)), 8 + 3 + 6);
        wrong("k, then missing", ZERO + "011" + k + "00", 8 + 3 + 10);
        wrong("k, then too much", Code.program(0, k) + "00000000", 8 + 10);
        wrong("k, then no 1", ZERO + k + "00000", 8 + 10);
        wrong("no 1, then too much", ZERO + ERROR + "00000" + "00000001", 15);
        wrong("a version too large, then nothing", Code.groups(NATURAL_MOST + 1, 5), 39);
        wrong("a k that is too large ends with its group",
            Code.ended(ZERO + "010000" + Code.groups(2, 5)), 8 + 6 + 39);
        wrong("12 in 20 others", Code.program(0, Code.within(20, "001", twelve)), 8 + 60 + 6);
        wrong("12 in 21 others", Code.program(0, Code.within(21, "001", twelve)), 8 + 65);
    }
}
