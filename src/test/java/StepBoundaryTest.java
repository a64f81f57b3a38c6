/**
 * The section "Terms", steps: each way in which it ends, what is looked at first, and the budget. The
 * comments are the document's words.
 */
public final class StepBoundaryTest {
    private static final String UNIT = Code.unit();
    private static final String ERROR = Code.error();
    private static final String IDENTITY = Code.lambda(Code.variable(1));
    private static final int[] FORCES = {0, 0, 0, 0, 0, 0, 1, 0, 0, 0, 1, 0};
    private static final int[] ARGUMENTS = {2, 2, 2, 2, 2, 2, 3, 2, 1, 2, 2, 2};
    private static final String[] CONSTANTS = {
        Code.number(0), Code.truth(false), UNIT, Code.bytes(), Code.bytes(1, 2)};

    public static void main(String[] args) {
        beginning();
        variables();
        noFrame();
        error();
        forced();
        forcesOfOperations();
        applied();
        argumentsOfOperations();
        doneInTheSameStep();
        budgetOfEachStep();
        budgetFirst();
        stepsOfRun();
        nothingBehindTheEnd();
        staleValues();
        Check.close("StepBoundaryTest");
    }

    /** about(3) to about(7) at the end, and no result. */
    private static void ends(String what, String term, int... want) {
        TermMachine x = Code.ran(term, 100000);
        Check.stands(what, x, want);
        Check.tells(what, x);
    }

    // "At the beginning it computes the program's term in the empty environment, with no frame."
    private static void beginning() {
        TermMachine x = Code.begun(Code.apply(IDENTITY, UNIT), 100);
        Check.stands("at the beginning", x, 1, 0, 0, 0, 0, 0);
        Check.due("the first step", x.run(1), 1);
        Check.stands("behind the first step", x, 1, 1, 1, 1, 0, 0);
    }

    // "VARIABLE: returns the k-th value"; "k 1 is the latest"
    private static void variables() {
        for (int lambdas = 1; lambdas <= 9; lambdas++) {
            String[] arguments = new String[lambdas];
            for (int i = 0; i < lambdas; i++) {
                arguments[i] = Code.number(lambdas - i);
            }
            for (int k = 1; k <= lambdas; k++) {
                String term = Code.apply(Code.within(lambdas, "010", Code.variable(k)), arguments);
                TermMachine x = Code.ran(term, 1000);
                Check.tells("k " + k + " of " + lambdas, x, 4, 0, k);
                // A VARIABLE makes no value: only each LAMBDA, argument and term computed counts.
                Check.due("k " + k + " of " + lambdas + ": about(7)", x.about(7), 3 * lambdas);
            }
        }
    }

    // "no frame: ended, 1, with the RESULT v"
    private static void noFrame() {
        String[] values = {Code.number(7), Code.delay(ERROR), Code.lambda(ERROR), Code.operation(3)};
        for (String value : values) {
            TermMachine x = Code.begun(value, 100);
            x.run(1);
            Check.stands("returns", x, 2, 1, 1, 0, 1, 0);
            Check.due("the last step", x.run(100), 1);
            Check.stands("ended", x, 11, 2, 2, 0, 1);
        }
    }

    // "ERROR: ended, 2"
    private static void error() {
        ends("error", ERROR, 12, 1, 1, 0, 0, 0);
        ends("error forced", Code.force(ERROR), 12, 2, 2, 1, 0, 0);
        ends("error applied", Code.apply(ERROR, UNIT), 12, 2, 2, 1, 0, 0);
        ends("error as an argument", Code.apply(UNIT, ERROR), 12, 4, 4, 1, 1, 0);
        ends("error ahead of an argument that is wrong", Code.apply(ERROR, Code.force(UNIT)),
            12, 2, 2, 1, 0, 0);
        ends("error delayed and forced", Code.force(Code.delay(ERROR)), 12, 4, 4, 0, 1, 0);
        ends("error in a lambda", Code.apply(Code.lambda(ERROR), UNIT), 12, 6, 6, 0, 3, 0);
    }

    // "FORCE: v DELAYED: computes its term in its environment; v PARTIAL that wants a force: that
    // grows by one; else ended, 3"
    private static void forced() {
        TermMachine x = Code.ran(Code.force(Code.delay(UNIT)), 100);
        Check.stands("delayed", x, 11, 5, 5, 0, 2);
        Check.tells("delayed", x, 4, 2);
        TermMachine y = Code.ran(Code.force(Code.delay(Code.delay(UNIT))), 100);
        Check.tells("delayed twice, forced once", y, 1, 4, 2);
        TermMachine z = Code.ran(Code.force(Code.force(Code.delay(Code.delay(UNIT)))), 100);
        Check.tells("delayed twice, forced twice", z, 4, 2);
        ends("delayed once, forced twice", Code.force(Code.force(Code.delay(UNIT))), 13, 6, 6, 0, 2, 0);
        for (String constant : CONSTANTS) {
            ends("force of " + constant, Code.force(constant), 13, 3, 3, 0, 1, 0);
            ends("force in an argument", Code.apply(UNIT, Code.force(constant)), 13, 6, 6, 1, 2, 0);
        }
        ends("force of a lambda", Code.force(IDENTITY), 13, 3, 3, 0, 1, 0);
        ends("force of a lambda of a delay", Code.force(Code.lambda(Code.delay(UNIT))), 13, 3, 3, 0, 1, 0);
    }

    // "OPERATIONS want their forces first, then their arguments"
    private static void forcesOfOperations() {
        for (int n = 0; n <= 11; n++) {
            String bare = Code.operation(n);
            String what = "operation " + n;
            if (FORCES[n] == 0) {
                ends(what + " forced", Code.force(bare), 13, 3, 3, 0, 1, 0);
                TermMachine x = Code.ran(bare, 100);
                Check.tells(what, x, 7, n);
            } else {
                TermMachine x = Code.ran(Code.force(bare), 100);
                Check.stands(what + " forced", x, 11, 4, 4, 0, 2, 3);
                Check.tells(what + " forced", x, 5, 7, n);
                ends(what + " forced twice", Code.force(Code.force(bare)), 13, 5, 5, 0, 2, 0);
                ends(what + " without its force", Code.apply(bare, UNIT), 13, 5, 5, 0, 2, 0);
            }
            // A force between or behind the arguments is not wanted.
            for (int many = 1; many < ARGUMENTS[n]; many++) {
                int steps = 2 + 4 * many + 2 * FORCES[n];
                int made = 1 + FORCES[n] + 2 * many;
                ends(what + " forced behind " + many, Code.force(given(n, many)),
                    13, steps + 1, steps + 1, 0, made, 0);
            }
        }
    }

    /** The operation with its forces, and so many UNITs for arguments. */
    private static String given(int operation, int many) {
        String term = Code.operation(operation);
        if (FORCES[operation] == 1) {
            term = Code.force(term);
        }
        for (int i = 0; i < many; i++) {
            term = Code.apply(term, UNIT);
        }
        return term;
    }

    // "FUNCTION f: f a LAMBDA: computes its term in its environment with v as the latest; f PARTIAL
    // that wants an argument: v is one more; else ended, 3"
    private static void applied() {
        TermMachine x = Code.ran(Code.apply(IDENTITY, Code.number(9)), 100);
        Check.stands("lambda", x, 11, 7, 7, 0, 3);
        Check.tells("lambda", x, 4, 0, 9);
        for (String constant : CONSTANTS) {
            ends(constant + " applied", Code.apply(constant, UNIT), 13, 5, 5, 0, 2, 0);
            ends(constant + " applied in a force", Code.force(Code.apply(constant, UNIT)),
                13, 6, 6, 1, 2, 0);
        }
        ends("delayed, applied", Code.apply(Code.delay(IDENTITY), UNIT), 13, 5, 5, 0, 2, 0);
        ends("one lambda, two arguments", Code.apply(IDENTITY, UNIT, UNIT), 13, 10, 10, 0, 4, 0);
        // The argument is computed first, also if the function cannot be applied.
        ends("error in the argument of a constant", Code.apply(UNIT, ERROR), 12, 4, 4, 1, 1, 0);
    }

    // "f PARTIAL that wants an argument: v is one more"; no argument is looked at before all are there
    private static void argumentsOfOperations() {
        String delayed = Code.delay(ERROR);
        for (int n = 0; n <= 11; n++) {
            String term = given(n, 0);
            int steps = 2 + 2 * FORCES[n];
            int made = 1 + FORCES[n];
            for (int many = 1; many < ARGUMENTS[n]; many++) {
                term = Code.apply(term, delayed);
                TermMachine x = Code.ran(term, 1000);
                Check.stands("operation " + n + " with " + many, x, 11, steps + 4 * many, steps + 4 * many,
                    0, made + 2 * many);
            }
        }
    }

    // "A partial one that has all it wants is DONE in the same step: it returns what it gives, or
    // ended, 4"
    private static void doneInTheSameStep() {
        TermMachine x = Code.begun(Code.apply(Code.operation(8), Code.bytes(5)), 100);
        Check.due("ahead of it", x.run(4), 4);
        Check.stands("ahead of it", x, 2, 4, 4, 1, 2, 0);
        Check.due("done", x.run(1), 1);
        Check.stands("done", x, 2, 5, 6, 0, 4, 0);
        Check.due("ended", x.run(100), 1);
        Check.tells("ended", x, 4, 0, 1);
        TermMachine y = Code.begun(Code.apply(Code.operation(8), UNIT), 100);
        y.run(4);
        Check.due("done", y.run(100), 1);
        Check.stands("failed", y, 14, 5, 6, 0, 3, 0);
        // What is done wants nothing more, a force or an argument.
        String done = Code.apply(Code.operation(8), Code.bytes(5));
        ends("done, then forced", Code.force(done), 13, 7, 8, 0, 4, 0);
        ends("done, then applied", Code.apply(done, UNIT), 13, 9, 10, 0, 5, 0);
    }

    // "COSTS: each step 1"; "If with it the costs would pass the BUDGET, the step is not made and
    // costs nothing, but counts as a step: ended, 5"
    private static void budgetOfEachStep() {
        String term = Code.force(Code.apply(Code.lambda(Code.delay(Code.variable(1))), Code.operation(2)));
        TermMachine free = Code.begun(term, 100000);
        for (int budget = 0; budget <= 10; budget++) {
            TermMachine x = Code.ran(term, budget);
            if (budget < 10) {
                Check.stands("budget " + budget, x, 15, budget + 1, budget, free.about(6), free.about(7), 0);
                Check.tells("budget " + budget, x);
                Check.due("a step", free.run(1), 1);
            } else {
                Check.stands("budget " + budget, x, 11, 10, 10, 0, 4, 2);
            }
        }
    }

    // "(looked at first)": ahead of each other way in which it could end
    private static void budgetFirst() {
        first("1", UNIT, 2, 11, 0, 0);
        first("2", Code.force(ERROR), 2, 12, 1, 1);
        first("3 of a force", Code.force(UNIT), 3, 13, 1, 0);
        first("3 of an argument", Code.apply(UNIT, UNIT), 5, 13, 1, 0);
        first("4", Code.apply(Code.operation(8), UNIT), 6, 14, 1, 0);
        first("4 of a sum", Code.apply(Code.operation(0), UNIT, UNIT), 11, 14, 1, 0);
        first("4 of a quotient", Code.apply(Code.operation(3), Code.number(1), Code.number(0)), 13, 14, 1, 0);
    }

    /** With costs it ends with state, with 1 less it ends with 5; the frames that are left by each. */
    private static void first(String what, String term, int costs, int state, int kept, int gone) {
        TermMachine x = Code.ran(term, costs);
        Check.due(what + ": about(3)", x.about(3), state);
        Check.due(what + ": about(5)", x.about(5), costs);
        Check.due(what + ": about(6)", x.about(6), gone);
        TermMachine y = Code.ran(term, costs - 1);
        Check.due(what + " over the budget: about(3)", y.about(3), 15);
        Check.due(what + " over the budget: about(4)", y.about(4), x.about(4));
        Check.due(what + " over the budget: about(6)", y.about(6), kept);
        Check.tells(what + " over the budget", y);
    }

    // "Up to n steps (also one that ends it counts, here and in about(4))"; "none when it has ended"
    private static void stepsOfRun() {
        String[] terms = {Code.apply(IDENTITY, UNIT), Code.apply(Code.lambda(ERROR), UNIT),
            Code.force(Code.apply(IDENTITY, UNIT)), Code.apply(Code.operation(8), UNIT)};
        int[] budgets = {0, 3, 100};
        for (String term : terms) {
            for (int budget : budgets) {
                int all = Code.ran(term, budget).about(4);
                for (int n = 1; n <= all + 1; n++) {
                    TermMachine x = Code.begun(term, budget);
                    Check.due("run(" + n + ") of " + all, x.run(n), Math.min(n, all));
                    Check.due("about(4)", x.about(4), Math.min(n, all));
                    Check.due("ended", x.about(3) >= 10 ? 1 : 0, n >= all ? 1 : 0);
                    Check.due("the others", x.run(100), Math.max(0, all - n));
                    Check.due("about(4) of all", x.about(4), all);
                    Check.due("none", x.run(100), 0);
                }
            }
        }
    }

    private static void nothingBehindTheEnd() {
        String loop = Code.lambda(Code.apply(Code.variable(1), Code.variable(1)));
        String[] terms = {UNIT, ERROR, Code.force(UNIT), Code.apply(Code.operation(8), UNIT),
            Code.apply(loop, loop), Code.apply(loop, loop)};
        int[] budgets = {100, 100, 100, 100, 50, 100000};
        for (int i = 0; i < terms.length; i++) {
            TermMachine x = Code.ran(terms[i], budgets[i]);
            int[] at = new int[6];
            for (int what = 3; what <= 8; what++) {
                at[what - 3] = x.about(what);
            }
            Check.due("its end", at[0], 11 + i);
            Check.due("run(1) behind it", x.run(1), 0);
            Check.due("run(100) behind it", x.run(100), 0);
            Check.stands("behind end " + (1 + i), x, at);
        }
    }

    // "OPERATION: returns it, with nothing yet": also where the values of an earlier beginning stood
    private static void staleValues() {
        String partial = Code.apply(Code.force(Code.operation(6)), Code.truth(true), UNIT);
        String second = Code.apply(IDENTITY, Code.operation(0));
        String fourth = Code.force(Code.apply(Code.lambda(Code.operation(6)), UNIT));
        TermMachine x = Code.ran(partial, 100);
        Check.tells("two of 6", x, 3, 3, 5, 7, 6, 4, 1, 1, 4, 2);
        again(x, second);
        Check.tells("the second value where 6 had its force", x, 7, 0);
        again(x, partial);
        again(x, fourth);
        Check.tells("the fourth value where 6 had an argument", x, 5, 7, 6);
    }

    private static void again(TermMachine x, String term) {
        Code.read(x, Code.program(0, term));
        x.begin(100);
        x.run(100);
    }
}
