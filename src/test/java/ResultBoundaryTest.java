import java.util.ArrayList;
import java.util.List;

/**
 * The section "Terms", the result as a term: free VARIABLES, PARTIAL operations and what is cut off.
 * The comments are the document's words.
 */
public final class ResultBoundaryTest {
    private static final String UNIT = Code.unit();
    private static final String ERROR = Code.error();
    private static final int[] FORCES = {0, 0, 0, 0, 0, 0, 1, 0, 0, 0, 1, 0};
    private static final int[] ARGUMENTS = {2, 2, 2, 2, 2, 2, 3, 2, 1, 2, 2, 2};

    public static void main(String[] args) {
        constants();
        freeInDelayed();
        freeInLambda();
        freeWherever();
        everyValuePutIn();
        environmentsOfValues();
        asItWasRead();
        partials();
        argumentsInOrder();
        cutOffInEachThing();
        cutOffInPartials();
        manyCutOff();
        behindOneCutOff();
        lastAndFirstNumbers();
        onlyWithOne();
        Check.close("ResultBoundaryTest");
    }

    private static void tells(String what, String term, int... numbers) {
        Check.tells(what, Code.ran(term, 100000), numbers);
    }

    private static void tells(String what, String term, List<Integer> numbers) {
        int[] row = new int[Math.min(400, numbers.size())];
        for (int i = 0; i < row.length; i++) {
            row[i] = numbers.get(i);
        }
        tells(what, term, row);
    }

    // "of a constant 4 and 0 and the number, 1 and 0 or 1, 2, or 3 and how many bytes and these"
    private static void constants() {
        long[] numbers = {-2147483648L, -1073741825, -1073741824, -1, 0, 1, 1073741823, 1073741824, 2147483647};
        for (long n : numbers) {
            tells("number " + n, Code.integer(n), 4, 0, (int) n);
        }
        tells("false", Code.truth(false), 4, 1, 0);
        tells("true", Code.truth(true), 4, 1, 1);
        tells("unit", UNIT, 4, 2);
        tells("no bytes", Code.bytes(), 4, 3, 0);
        tells("one byte", Code.bytes(0), 4, 3, 1, 0);
        tells("7 bytes", Code.bytes(0, 255, 1, 128, 127, 254, 0), 4, 3, 7, 0, 255, 1, 128, 127, 254, 0);
        // Within a term as well.
        tells("least in a term", Code.delay(Code.number(-1073741824)), 1, 4, 0, -1073741824);
        tells("most in a term", Code.delay(Code.number(1073741823)), 1, 4, 0, 1073741823);
        tells("unit in a term", Code.delay(UNIT), 1, 4, 2);
        tells("no bytes in a term", Code.lambda(Code.bytes()), 2, 4, 3, 0);
        tells("bytes in a term", Code.lambda(Code.bytes(0, 255)), 2, 4, 3, 2, 0, 255);
    }

    /** The term in so many LAMBDAs, applied to 100 and one for each: k finds 100 and k. */
    private static String closed(int values, String term) {
        String[] arguments = new String[values];
        for (int i = 0; i < values; i++) {
            arguments[i] = Code.number(100 + values - i);
        }
        return Code.apply(Code.within(values, "010", term), arguments);
    }

    // "of DELAYED 1 and its term .. in which a VARIABLE that is free in it is the value of its
    // environment as a term, all others 0 and k as it was read"
    private static void freeInDelayed() {
        for (int values = 1; values <= 4; values++) {
            for (int bound = 0; bound <= 4; bound++) {
                for (int k = 1; k <= values + bound; k++) {
                    String inner = Code.within(bound, "010", Code.variable(k));
                    tells("k " + k + " in " + bound + " of delayed", closed(values, Code.delay(inner)),
                        found(1, bound, k));
                }
            }
        }
    }

    // "of LAMBDA 2 and its term": its own VARIABLE is not free in it
    private static void freeInLambda() {
        for (int values = 1; values <= 4; values++) {
            for (int bound = 1; bound <= 4; bound++) {
                for (int k = 1; k <= values + bound; k++) {
                    String inner = Code.within(bound, "010", Code.variable(k));
                    List<Integer> want = found(2, bound, k);
                    want.remove(0);
                    tells("k " + k + " in " + bound + " of lambda", closed(values, inner), want);
                }
            }
        }
    }

    private static List<Integer> found(int head, int bound, int k) {
        List<Integer> want = new ArrayList<>();
        want.add(head);
        for (int i = 0; i < bound; i++) {
            want.add(2);
        }
        if (k <= bound) {
            want.addAll(List.of(0, k));
        } else {
            want.addAll(List.of(4, 0, 100 + k - bound));
        }
        return want;
    }

    private static void freeWherever() {
        String one = Code.variable(1);
        String two = Code.variable(2);
        tells("in a force", closed(1, Code.delay(Code.force(one))), 1, 5, 4, 0, 101);
        tells("in a delay", closed(1, Code.delay(Code.delay(one))), 1, 1, 4, 0, 101);
        tells("in both of an apply", closed(2, Code.delay(Code.apply(two, one))),
            1, 3, 4, 0, 102, 4, 0, 101);
        // A LAMBDA that has ended is around nothing that stands behind it.
        tells("behind a lambda", closed(2, Code.delay(Code.apply(Code.lambda(one), one))),
            1, 3, 2, 0, 1, 4, 0, 101);
        tells("in a lambda and behind it", closed(2, Code.delay(Code.apply(Code.lambda(two), two))),
            1, 3, 2, 4, 0, 101, 4, 0, 102);
        tells("in two and behind one", closed(1, Code.delay(Code.lambda(Code.apply(
            Code.lambda(Code.variable(3)), two)))), 1, 2, 3, 2, 4, 0, 101, 4, 0, 101);
        tells("with nothing free", closed(3, Code.delay(ERROR)), 1, 6);
    }

    private static void everyValuePutIn() {
        String[] values = {Code.number(-1), Code.truth(true), UNIT, Code.bytes(9), Code.delay(ERROR),
            Code.lambda(Code.variable(1)), Code.operation(5), Code.force(Code.operation(6)),
            Code.apply(Code.operation(0), UNIT)};
        int[][] told = {{4, 0, -1}, {4, 1, 1}, {4, 2}, {4, 3, 1, 9}, {1, 6}, {2, 0, 1}, {7, 5}, {5, 7, 6},
            {3, 7, 0, 4, 2}};
        for (int i = 0; i < values.length; i++) {
            List<Integer> want = new ArrayList<>(List.of(1));
            List<Integer> deeper = new ArrayList<>(List.of(2, 2, 3, 0, 1));
            for (int n : told[i]) {
                want.add(n);
                deeper.add(n);
            }
            tells("put in", Code.apply(Code.lambda(Code.delay(Code.variable(1))), values[i]), want);
            String holder = "010" + "010" + "010" + Code.apply(Code.variable(1), Code.variable(3));
            tells("put in deeper", Code.apply(holder, values[i]), deeper);
        }
    }

    // "with all that its environments hold put in": a value's VARIABLES are those of its own place
    private static void environmentsOfValues() {
        String keep = Code.lambda(Code.lambda(Code.variable(2)));
        String term = UNIT;
        List<Integer> want = new ArrayList<>(List.of(4, 2));
        for (int i = 0; i < 5; i++) {
            term = Code.apply(keep, term);
            want.add(0, 2);
            tells("kept " + i, term, want);
        }
        String both = Code.apply(Code.lambda(Code.lambda(Code.apply(Code.variable(1), Code.variable(2)))),
            Code.lambda(Code.lambda(Code.apply(Code.variable(1), Code.variable(2)))));
        tells("a closed one put in", both, 2, 3, 0, 1, 2, 2, 3, 0, 1, 0, 2);
        String other = Code.apply(Code.lambda(Code.lambda(Code.delay(Code.variable(2)))), Code.number(3), UNIT);
        String holder = Code.lambda(Code.lambda(Code.delay(Code.apply(Code.variable(1), Code.variable(2)))));
        tells("of two environments", Code.apply(holder, Code.number(8), other), 1, 3, 1, 4, 0, 3, 4, 0, 8);
    }

    // "0 and k as it was read"
    private static void asItWasRead() {
        for (int many = 1; many <= 5; many++) {
            String row = "010" + "010" + "000" + Code.groups(2, many);
            tells("k 2 in " + many + " groups", row, 2, 2, 0, 2);
        }
        List<Integer> want = new ArrayList<>();
        for (int i = 0; i < 20; i++) {
            want.add(2);
        }
        want.add(0);
        want.add(20);
        tells("k 20", Code.within(20, "010", Code.variable(20)), want);
        tells("operations", Code.delay(Code.apply(Code.operation(0), Code.operation(11))), 1, 3, 7, 0, 7, 11);
    }

    // "its arguments' 3, its forces' 5, 7 and its number, the arguments in order"
    private static void partials() {
        for (int n = 0; n <= 11; n++) {
            tells("operation " + n, Code.operation(n), 7, n);
            String term = Code.operation(n);
            List<Integer> want = new ArrayList<>(List.of(7, n));
            if (FORCES[n] == 1) {
                term = Code.force(term);
                want.add(0, 5);
                tells("forced " + n, term, want);
            }
            for (int i = 1; i < ARGUMENTS[n]; i++) {
                term = Code.apply(term, Code.number(i));
                want.add(0, 3);
                want.addAll(List.of(4, 0, i));
                tells(i + " of " + n, term, want);
                List<Integer> held = new ArrayList<>(want);
                held.add(0, 1);
                tells(i + " of " + n + " held",
                    Code.apply(Code.lambda(Code.delay(Code.variable(1))), term), held);
            }
        }
    }

    private static void argumentsInOrder() {
        String six = Code.force(Code.operation(6));
        String one = Code.apply(Code.operation(0), Code.number(7));
        String two = Code.apply(six, Code.delay(ERROR), UNIT);
        tells("partial ones in one", Code.apply(six, one, two),
            3, 3, 5, 7, 6, 3, 7, 0, 4, 0, 7, 3, 3, 5, 7, 6, 1, 6, 4, 2);
        tells("with an environment", Code.apply(six, closed(1, Code.delay(Code.variable(1))), UNIT),
            3, 3, 5, 7, 6, 1, 4, 0, 101, 4, 2);
    }

    private static final int[] PAIR = {3, 4, 3, 7, 1, 2, 3, 4, 5, 6, 255, 4, 3, 7, 9, 8, 7, 6, 5, 4, 0};

    /** A term with 29 numbers. */
    private static String sized() {
        String pair = Code.apply(Code.bytes(1, 2, 3, 4, 5, 6, 255), Code.bytes(9, 8, 7, 6, 5, 4, 0));
        return Code.within(8, "001", pair);
    }

    /** DELAYs, and 390 numbers (an APPLY and a tree of 13 times that) ahead of the tail. */
    private static String long390(int delays, String tail) {
        return Code.within(delays, "001", "011" + Code.tree(13, Code.variable(1)) + tail);
    }

    private static List<Integer> told390(int delays) {
        List<Integer> all = new ArrayList<>();
        for (int i = 0; i < delays; i++) {
            all.add(1);
        }
        all.add(3);
        addTree(all, 13);
        return all;
    }

    private static void addTree(List<Integer> all, int leaves) {
        if (leaves > 1) {
            all.add(3);
            addTree(all, leaves / 2);
            addTree(all, leaves - leaves / 2);
            return;
        }
        for (int i = 0; i < 8; i++) {
            all.add(1);
        }
        for (int n : PAIR) {
            all.add(n);
        }
    }

    // "At most 400 numbers are told; the others are cut off": within each thing, wherever it is cut
    private static void cutOffInEachThing() {
        String[] tails = {Code.number(-1), Code.truth(true), UNIT, Code.bytes(), Code.bytes(7, 8, 9),
            Code.operation(11), ERROR, Code.force(ERROR), Code.delay(UNIT), Code.lambda(Code.variable(1)),
            Code.lambda(Code.variable(2)), Code.apply(UNIT, ERROR)};
        int[][] told = {{4, 0, -1}, {4, 1, 1}, {4, 2}, {4, 3, 0}, {4, 3, 3, 7, 8, 9}, {7, 11}, {6}, {5, 6},
            {1, 4, 2}, {2, 0, 1}, {2, 1}, {3, 4, 2, 6}};
        for (int i = 0; i < tails.length; i++) {
            for (int delays = 1; delays <= 11; delays++) {
                List<Integer> want = told390(delays);
                for (int n : told[i]) {
                    want.add(n);
                }
                if (i == 10) {
                    // Its VARIABLE is free: the 29 numbers once more.
                    want.remove(want.size() - 1);
                    addTree(want, 1);
                }
                String holder = Code.lambda(long390(delays, tails[i]));
                tells("tail " + i + " behind " + (390 + delays), Code.apply(holder, sized()), want);
            }
        }
    }

    private static void cutOffInPartials() {
        String partial = Code.apply(Code.force(Code.operation(6)), Code.truth(true), Code.number(-1));
        int[] told = {3, 3, 5, 7, 6, 4, 1, 1, 4, 0, -1};
        for (int delays = 1; delays <= 11; delays++) {
            List<Integer> want = told390(delays);
            for (int n : told) {
                want.add(n);
            }
            String holder = Code.lambda(Code.lambda(long390(delays, Code.variable(2))));
            tells("partial behind " + (390 + delays), Code.apply(holder, partial, sized()), want);
        }
    }

    // A result that would have more numbers than a long can count.
    private static void manyCutOff() {
        String twice = Code.lambda(Code.lambda(Code.apply(Code.variable(2),
            Code.apply(Code.variable(2), Code.variable(1)))));
        String doubled = Code.lambda(Code.delay(Code.apply(Code.variable(1), Code.variable(1))));
        // 16 times doubled, and that 4 times: more than 2^64 numbers.
        String sixteen = Code.apply(twice, twice, twice);
        String term = Code.apply(Code.apply(twice, Code.apply(twice, Code.apply(sixteen, doubled))), UNIT);
        TermMachine x = Code.ran(term, 100000);
        Check.due("many: about(3)", x.about(3), 11);
        Check.due("many: about(8)", x.about(8), 400);
        for (int i = 0; i < 128; i++) {
            Check.due("many: told(" + i + ")", x.told(i), i % 2 == 0 ? 1 : 3);
        }
        Check.due("many: told(128)", x.told(128), 4);
        Check.due("many: told(399)", x.told(399) == -1 ? 1 : 0, 0);
        Check.due("many: told(400)", x.told(400), -1);
    }

    // What was cut off comes to no later result.
    private static void behindOneCutOff() {
        String[] tails = {UNIT, Code.apply(UNIT, ERROR), Code.variable(1)};
        for (String tail : tails) {
            TermMachine x = Code.ran(Code.apply(Code.lambda(long390(11, tail)), sized()), 1000);
            Check.due("cut off: about(8)", x.about(8), 400);
            Code.read(x, Code.program(0, Code.delay(Code.number(5))));
            x.begin(100);
            x.run(100);
            Check.tells("behind one cut off", x, 1, 4, 0, 5);
            x.begin(100);
            x.run(100);
            Check.tells("the same anew", x, 1, 4, 0, 5);
        }
    }

    // "Number i of the result as a term; NONE when there is none (a number may be -1, too)"
    private static void lastAndFirstNumbers() {
        TermMachine x = Code.ran(Code.number(-1), 100);
        Check.due("about(8)", x.about(8), 3);
        Check.due("told(0)", x.told(0), 4);
        Check.due("told(1)", x.told(1), 0);
        Check.due("told(2)", x.told(2), -1);
        int[] none = {-1, -2, 3, 4, 399, 400, 401, Integer.MAX_VALUE, Integer.MIN_VALUE};
        for (int i : none) {
            Check.due("told(" + i + ")", x.told(i), TermMachine.NONE);
        }
        edge(8, 399, 6, -1);
        edge(9, 400, 0, 6);
        // The ERROR would be number 400, and there is none.
        edge(10, 400, 4, 0);
    }

    /** 390 and the DELAYs' numbers, then an ERROR'S 6. */
    private static void edge(int delays, int many, int at398, int at399) {
        TermMachine x = Code.ran(Code.apply(Code.lambda(long390(delays, ERROR)), sized()), 1000);
        Check.due("about(8) of " + (391 + delays), x.about(8), many);
        Check.due("told(398) of " + (391 + delays), x.told(398), at398);
        Check.due("told(399) of " + (391 + delays), x.told(399), at399);
        Check.due("told(400) of " + (391 + delays), x.told(400), -1);
    }

    // "if it ended with 1"
    private static void onlyWithOne() {
        String loop = Code.lambda(Code.apply(Code.variable(1), Code.variable(1)));
        String[] terms = {ERROR, Code.force(UNIT), Code.apply(Code.operation(8), UNIT), UNIT,
            Code.apply(loop, loop)};
        int[] budgets = {100, 100, 100, 1, 100000};
        TermMachine x = Code.ran(Code.number(-1), 100);
        for (int i = 0; i < terms.length; i++) {
            Code.read(x, Code.program(0, terms[i]));
            Check.tells("read", x);
            x.begin(budgets[i]);
            Check.tells("begun", x);
            Code.finish(x);
            Check.due("its end", x.about(3), 12 + i);
            Check.tells("ended with " + (2 + i), x);
        }
    }
}
