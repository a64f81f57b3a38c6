/**
 * The section "Terms", FULL: 200 frames, 600 values made, and what a step that is not made leaves. The
 * comments are the document's words.
 */
public final class RoomBoundaryTest {
    private static final int PLENTY = 100000;
    private static final String UNIT = Code.unit();
    private static final String ERROR = Code.error();
    private static final int[] FORCES = {0, 0, 0, 0, 0, 0, 1, 0, 0, 0, 1, 0};
    private static final int[] ARGUMENTS = {2, 2, 2, 2, 2, 2, 3, 2, 1, 2, 2, 2};
    private static final int[] COSTS = {2, 2, 4, 4, 2, 2, 1, 5, 1, 3, 1, 2};
    private static final String ONE = Code.number(1);
    private static final String TWO = Code.bytes(3, 4);
    private static final String TRUE = Code.truth(true);
    private static final String[][] FITTING = {
        {ONE, ONE}, {ONE, ONE}, {ONE, ONE}, {ONE, ONE}, {ONE, ONE}, {ONE, ONE}, {TRUE, ONE, ONE},
        {TWO, TWO}, {TWO}, {TWO, ONE}, {UNIT, ONE}, {TWO, TWO}};

    public static void main(String[] args) {
        filled();
        frames();
        framesThatGo();
        valuesOfTerms();
        valuesOfFrames();
        noValues();
        bothOrNone();
        choicesMakeOne();
        failuresMakeOne();
        behindUnfit();
        costsAndCounts();
        budgetFirst();
        Check.close("RoomBoundaryTest");
    }

    /** The state, frames and values made at its end. */
    private static void ends(String what, String term, int state, int frames, int values) {
        TermMachine x = Code.ran(term, PLENTY);
        Check.due(what + ": about(3)", x.about(3), state);
        Check.due(what + ": about(6)", x.about(6), frames);
        Check.due(what + ": about(7)", x.about(7), values);
        if (state != 11) {
            Check.tells(what, x);
        }
    }

    private static void values(String what, int made, String term, int state, int frames, int values) {
        ends(what + " behind " + made, Filled.behind(made, term), state, frames, values);
    }

    // What the other tests here rest on.
    private static void filled() {
        for (int made = 580; made <= 600; made++) {
            values("error", made, ERROR, 12, 0, made);
        }
        for (int frames = 192; frames <= 200; frames++) {
            ends("error under " + frames, Filled.under(frames, ERROR), 12, frames, 499);
        }
    }

    // "there would be more than 200 frames"
    private static void frames() {
        String apply = Code.apply(ERROR, UNIT);
        ends("force, the 199th", Filled.under(198, Code.force(ERROR)), 12, 199, 499);
        ends("force, the 200th", Filled.under(199, Code.force(ERROR)), 12, 200, 499);
        ends("force, the 201st", Filled.under(200, Code.force(ERROR)), 16, 200, 499);
        ends("apply, the 200th", Filled.under(199, apply), 12, 200, 499);
        ends("apply, the 201st", Filled.under(200, apply), 16, 200, 499);
        ends("one in another, the 201st", Filled.under(199, Code.force(apply)), 16, 200, 499);
    }

    // A FUNCTION takes the place of its ARGUMENT, and values come back under 200 frames.
    private static void framesThatGo() {
        String applied = Code.apply(Code.lambda(ERROR), UNIT);
        ends("a function for the 200th", Filled.under(199, applied), 12, 199, 502);
        ends("a function for the 201st", Filled.under(200, applied), 16, 200, 499);
        ends("a delayed one, forced", Filled.under(199, Code.force(Code.delay(ERROR))), 12, 199, 500);
        ends("a constant under 200", Filled.under(200, UNIT), 13, 199, 500);
        ends("a constant under 199, forced", Filled.under(199, Code.force(UNIT)), 13, 199, 500);
        String length = Code.apply(Code.operation(8), TWO);
        ends("an operation done under 200", Filled.under(199, length), 13, 198, 503);
        ends("an operation failed under 200", Filled.under(199, Code.apply(Code.operation(8), UNIT)),
            14, 199, 502);
    }

    // "more than 600 values made (each value that a step makes counts: DELAY, LAMBDA, CONSTANT,
    // OPERATION returned"
    private static void valuesOfTerms() {
        String[] making = {Code.number(0), TRUE, UNIT, Code.bytes(), TWO, Code.delay(ERROR),
            Code.lambda(ERROR), Code.operation(0), Code.operation(6)};
        for (String term : making) {
            values(term, 598, term, 11, 0, 599);
            values(term, 599, term, 11, 0, 600);
            values(term, 600, term, 16, 0, 600);
        }
    }

    // "one more force or argument"; "and a LAMBDA'S term computed counts, too"
    private static void valuesOfFrames() {
        for (int n = 0; n <= 11; n++) {
            String term = Code.operation(n);
            if (FORCES[n] == 1) {
                term = Code.force(term);
                values("a force of " + n, 598, term, 11, 0, 600);
                values("a force of " + n, 599, term, 16, 1, 600);
            }
            for (int many = 1; many < ARGUMENTS[n]; many++) {
                term = Code.apply(term, UNIT);
                int made = 1 + FORCES[n] + 2 * many;
                values(many + " of " + n, 600 - made, term, 11, 0, 600);
                values(many + " of " + n, 601 - made, term, 16, 1, 600);
            }
        }
        String applied = Code.apply(Code.lambda(ERROR), UNIT);
        values("a lambda's term", 597, applied, 12, 0, 600);
        values("a lambda's term", 598, applied, 16, 1, 600);
    }

    // What makes no value is made behind 600 values, too.
    private static void noValues() {
        values("a variable", 600, Code.variable(1), 11, 0, 600);
        values("an apply", 600, Code.apply(ERROR, UNIT), 12, 1, 600);
        values("a force", 600, Code.force(ERROR), 12, 1, 600);
        values("an argument's turn", 599, Code.apply(UNIT, ERROR), 12, 1, 600);
        values("an argument's turn and a value", 599, Code.apply(UNIT, UNIT), 16, 1, 600);
        values("a delayed term", 599, Code.force(Code.delay(ERROR)), 12, 0, 600);
        values("a delayed term and a value", 599, Code.force(Code.delay(UNIT)), 16, 0, 600);
        values("the result", 599, UNIT, 11, 0, 600);
    }

    private static String done(int operation, String... arguments) {
        String head = Code.operation(operation);
        return Code.apply(FORCES[operation] == 1 ? Code.force(head) : head, arguments);
    }

    /** How many values there are ahead of the step that does the operation. */
    private static int ahead(int operation) {
        return FORCES[operation] + 2 * ARGUMENTS[operation];
    }

    // "what an operation gives but for 6 and 10"; "of two values both or none"
    private static void bothOrNone() {
        for (int n = 0; n <= 11; n++) {
            if (n != 6 && n != 10) {
                String term = done(n, FITTING[n]);
                values("599th and 600th of " + n, 598 - ahead(n), term, 11, 0, 600);
                values("600th and 601st of " + n, 599 - ahead(n), term, 16, 1, 599);
                values("601st and 602nd of " + n, 600 - ahead(n), term, 16, 1, 600);
            }
        }
    }

    private static void choicesMakeOne() {
        String[] choices = {done(6, FITTING[6]), done(6, Code.truth(false), ONE, TWO)};
        for (String term : choices) {
            values("599th of 6", 598 - ahead(6), term, 11, 0, 599);
            values("600th of 6", 599 - ahead(6), term, 11, 0, 600);
            values("601st of 6", 600 - ahead(6), term, 16, 1, 600);
        }
        values("599th of 10", 598 - ahead(10), done(10, FITTING[10]), 11, 0, 599);
        values("600th of 10", 599 - ahead(10), done(10, FITTING[10]), 11, 0, 600);
        values("601st of 10", 600 - ahead(10), done(10, FITTING[10]), 16, 1, 600);
    }

    // "an operation that ends with 4 makes the value with one more argument alone"; "it is looked at
    // .. ahead of 4"
    private static void failuresMakeOne() {
        for (int n = 0; n <= 11; n++) {
            String[] arguments = FITTING[n].clone();
            arguments[0] = Code.delay(ERROR);
            failure("kind in " + n, n, done(n, arguments));
        }
        failure("by 0", 3, done(3, ONE, Code.number(0)));
        failure("more than 7", 7, done(7, Code.bytes(1, 2, 3, 4), Code.bytes(1, 2, 3, 4)));
        failure("no such byte", 9, done(9, TWO, Code.number(2)));
        failure("too large", 2, done(2, Code.number(65536), Code.number(32768)));
    }

    private static void failure(String what, int operation, String term) {
        values(what, 598 - ahead(operation), term, 14, 0, 599);
        values(what, 599 - ahead(operation), term, 14, 0, 600);
        values(what, 600 - ahead(operation), term, 16, 1, 600);
    }

    // "it is looked at behind 3"
    private static void behindUnfit() {
        values("force of a constant", 599, Code.force(UNIT), 13, 0, 600);
        values("force of a lambda", 599, Code.force(Code.lambda(ERROR)), 13, 0, 600);
        values("force of an operation that wants none", 599, Code.force(Code.operation(0)), 13, 0, 600);
        values("a second force", 598, Code.force(Code.force(Code.operation(6))), 13, 0, 600);
        values("a constant applied", 598, Code.apply(UNIT, UNIT), 13, 0, 600);
        values("a delayed one applied", 598, Code.apply(Code.delay(ERROR), UNIT), 13, 0, 600);
        values("6 applied without its force", 598, Code.apply(Code.operation(6), TRUE), 13, 0, 600);
    }

    // "the step costs and counts, and is not made otherwise"
    private static void costsAndCounts() {
        for (int n = 0; n <= 11; n++) {
            boolean gives = n != 6 && n != 10;
            int made = (gives ? 599 : 600) - ahead(n);
            int steps = 1 + 4 * ARGUMENTS[n] + 2 * FORCES[n];
            full("operation " + n, made, done(n, FITTING[n]), steps, steps + COSTS[n]);
        }
        full("a failing one", 598, Code.apply(Code.operation(8), UNIT), 5, 6);
        full("a constant", 600, UNIT, 1, 1);
        full("a force", 599, Code.force(Code.operation(6)), 3, 3);
        full("an argument", 598, Code.apply(Code.operation(0), UNIT), 5, 5);
        full("a lambda's term", 598, Code.apply(Code.lambda(ERROR), UNIT), 5, 5);
        TermMachine x = Code.ran(Filled.under(200, ERROR), PLENTY);
        TermMachine y = Code.ran(Filled.under(200, Code.force(ERROR)), PLENTY);
        Check.due("a frame: about(4)", y.about(4), x.about(4));
        Check.due("a frame: about(5)", y.about(5), x.about(5));
        Check.due("a frame: run", y.run(100), 0);
    }

    /** The steps and costs from where the term comes to be computed up to its end, the full step too. */
    private static void full(String what, int made, String term, int steps, int costs) {
        TermMachine x = Code.ran(Filled.behind(made, ERROR), PLENTY);
        TermMachine y = Code.ran(Filled.behind(made, term), PLENTY);
        Check.due(what + " is full: about(3)", y.about(3), 16);
        Check.due(what + " is full: about(4)", y.about(4) - x.about(4) + 1, steps);
        Check.due(what + " is full: about(5)", y.about(5) - x.about(5) + 1, costs);
        Check.due(what + " is full: run", y.run(100), 0);
    }

    // "(looked at first)"
    private static void budgetFirst() {
        first("a value", Filled.behind(600, UNIT), 1);
        first("two values", Filled.behind(597, Code.apply(Code.operation(8), TWO)), 2);
        first("a failing operation", Filled.behind(598, Code.apply(Code.operation(8), UNIT)), 2);
        first("a frame", Filled.under(200, Code.force(ERROR)), 1);
        first("a frame of apply", Filled.under(200, Code.apply(ERROR, ERROR)), 1);
    }

    private static void first(String what, String term, int cost) {
        TermMachine free = Code.ran(term, PLENTY);
        int costs = free.about(5);
        TermMachine x = Code.ran(term, costs);
        Check.stands(what + " with enough", x, 16, free.about(4), costs, free.about(6), free.about(7), 0);
        TermMachine y = Code.ran(term, costs - 1);
        Check.stands(what + " with 1 less", y, 15, free.about(4), costs - cost, free.about(6), free.about(7), 0);
    }
}
