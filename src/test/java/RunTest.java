/** Promise 5: run, with the steps of each kind of term and frame. */
public final class RunTest {
    private static final String TRUE = Code.truth(true);
    private static final String IDENTITY = Code.lambda(Code.variable(1));

    public static void main(String[] args) {
        arguments();
        pieces();
        eachStep();
        environments();
        forces();
        unfit();
        errors();
        budgetFirst();
        Check.close("RunTest");
    }

    private static void arguments() {
        TermMachine x = new TermMachine();
        int[] wrong = {0, 101, -1, Integer.MIN_VALUE, Integer.MAX_VALUE};
        for (int n : wrong) {
            Check.badArgument("nothing begun: run(" + n + ")", () -> x.run(n));
        }
        Check.badState("no program", () -> x.run(1));
        Code.read(x, Code.program(0, TRUE));
        Check.badState("not begun", () -> x.run(100));
        x.begin(100);
        for (int n : wrong) {
            Check.badArgument("run(" + n + ")", () -> x.run(n));
        }
        Check.due("no step", x.about(4), 0);
        Check.due("run(100)", x.run(100), 2);
        Check.due("ended", x.run(100), 0);
        Check.badArgument("ended: run(0)", () -> x.run(0));
        Check.stands("ended", x, 11, 2, 2, 0, 1, 3);
        Code.read(x, Code.program(0, TRUE));
        Check.badState("read, not begun", () -> x.run(1));
    }

    private static void pieces() {
        String loop = Code.lambda(Code.apply(Code.variable(1), Code.variable(1)));
        TermMachine x = Code.begun(Code.apply(loop, loop), 1000);
        Check.due("run(1)", x.run(1), 1);
        Check.due("run(99)", x.run(99), 99);
        Check.due("run(100)", x.run(100), 100);
        Check.due("steps", x.about(4), 200);
        TermMachine y = Code.begun(Code.apply(IDENTITY, TRUE), 1000);
        Check.due("run(6)", y.run(6), 6);
        Check.due("run(6) to the end", y.run(6), 1);
        Check.due("run(6) behind it", y.run(6), 0);
    }

    private static void eachStep() {
        TermMachine x = Code.begun(Code.apply(IDENTITY, TRUE), 1000);
        int[][] want = {
            {1, 1, 1, 1, 0}, {2, 2, 2, 1, 1}, {1, 3, 3, 1, 1}, {2, 4, 4, 1, 2},
            {1, 5, 5, 0, 3}, {2, 6, 6, 0, 3}, {11, 7, 7, 0, 3}};
        steps("identity", x, want);
        TermMachine y = Code.begun(Code.force(Code.delay(TRUE)), 1000);
        steps("force", y, new int[][] {
            {1, 1, 1, 1, 0}, {2, 2, 2, 1, 1}, {1, 3, 3, 0, 1}, {2, 4, 4, 0, 2}, {11, 5, 5, 0, 2}});
        TermMachine z = Code.begun(Code.apply(Code.force(Code.operation(10)), Code.unit(), TRUE), 99);
        steps("operation", z, new int[][] {
            {1, 1, 1, 1, 0}, {1, 2, 2, 2, 0}, {1, 3, 3, 3, 0}, {2, 4, 4, 3, 1}, {2, 5, 5, 2, 2},
            {1, 6, 6, 2, 2}, {2, 7, 7, 2, 3}, {2, 8, 8, 1, 4}, {1, 9, 9, 1, 4}, {2, 10, 10, 1, 5},
            {2, 11, 12, 0, 6}, {11, 12, 13, 0, 6}});
    }

    private static void steps(String what, TermMachine x, int[][] want) {
        for (int[] row : want) {
            Check.due(what + ": run(1)", x.run(1), 1);
            Check.stands(what + " step " + row[1], x, row);
        }
        Check.due(what + ": behind the end", x.run(1), 0);
    }

    private static void environments() {
        for (int k = 1; k <= 3; k++) {
            String term = Code.lambda(Code.lambda(Code.lambda(Code.variable(k))));
            term = Code.apply(term, Code.number(3), Code.number(2), Code.number(1));
            Check.tells("k " + k, Code.ran(term, 100), 4, 0, k);
        }
        // The argument is computed in the environment of the APPLY, not of the function.
        String inner = Code.lambda(Code.apply(IDENTITY, Code.variable(1)));
        Check.tells("argument's environment", Code.ran(Code.apply(inner, TRUE), 100), 4, 1, 1);
        String kept = Code.apply(Code.lambda(Code.delay(Code.variable(1))), Code.number(8));
        String forced = Code.apply(Code.lambda(Code.force(Code.variable(1))), kept);
        Check.tells("a delayed one's environment", Code.ran(forced, 100), 4, 0, 8);
    }

    private static void forces() {
        Check.tells("6 grows", Code.ran(Code.force(Code.operation(6)), 9), 5, 7, 6);
        Check.tells("10 grows", Code.ran(Code.force(Code.operation(10)), 9), 5, 7, 10);
        ends("6 twice", Code.force(Code.force(Code.operation(6))), 3, 5, 5, 0, 2);
        ends("10 twice", Code.force(Code.force(Code.operation(10))), 3, 5, 5, 0, 2);
        for (int n = 0; n <= 11; n++) {
            if (n != 6 && n != 10) {
                ends("force of " + n, Code.force(Code.operation(n)), 3, 3, 3, 0, 1);
            }
        }
    }

    private static void ends(String what, String term, int how, int... more) {
        TermMachine x = Code.ran(term, 1000);
        Check.due(what, x.about(3), 10 + how);
        for (int i = 0; i < more.length; i++) {
            Check.due(what + ": about(" + (4 + i) + ")", x.about(4 + i), more[i]);
        }
        Check.tells(what, x);
    }

    private static void unfit() {
        ends("force of a constant", Code.force(TRUE), 3, 3, 3, 0, 1);
        ends("force of a lambda", Code.force(IDENTITY), 3, 3, 3, 0, 1);
        ends("a constant applied", Code.apply(TRUE, TRUE), 3, 5, 5, 0, 2);
        ends("a delayed one applied", Code.apply(Code.delay(TRUE), TRUE), 3, 5, 5, 0, 2);
        ends("6 applied without its force", Code.apply(Code.operation(6), TRUE), 3, 5, 5, 0, 2);
        ends("10 applied without its force", Code.apply(Code.operation(10), TRUE), 3, 5, 5, 0, 2);
        ends("8 done, and applied", Code.apply(Code.operation(8), Code.bytes(), TRUE), 3, 9, 10, 0, 5);
        ends("with frames left", Code.apply(IDENTITY, Code.force(TRUE)), 3, 6, 6, 1, 2);
    }

    private static void errors() {
        ends("error", Code.error(), 2, 1, 1, 0, 0);
        ends("error with frames", Code.force(Code.apply(Code.error(), TRUE)), 2, 3, 3, 2, 0);
        ends("error as an argument", Code.apply(IDENTITY, Code.error()), 2, 4, 4, 1, 1);
        Check.tells("error delayed", Code.ran(Code.delay(Code.error()), 9), 1, 6);
    }

    private static void budgetFirst() {
        TermMachine x = Code.ran(Code.error(), 0);
        Check.stands("error over the budget", x, 15, 1, 0, 0, 0, 0);
        TermMachine y = Code.ran(Code.force(TRUE), 2);
        Check.stands("unfit over the budget", y, 15, 3, 2, 1, 1, 0);
        TermMachine z = Code.ran(TRUE, 1);
        Check.stands("the end over the budget", z, 15, 2, 1, 0, 1, 0);
        Check.due("ended with 5", z.run(100), 0);
    }
}
