/** Promise 5: the budget, 200 frames and 600 values made. */
public final class LimitTest {
    public static void main(String[] args) {
        loops();
        valuesOfTerms();
        valuesOfOperations();
        valuesOfFrames();
        frames();
        operationsOverBudget();
        Check.close("LimitTest");
    }

    private static void loops() {
        String tail = Code.lambda(Code.apply(Code.variable(1), Code.variable(1)));
        TermMachine x = Code.ran(Code.apply(tail, tail), 100000);
        // 2 LAMBDAs, and one for each time round; 5 steps a time, 4 ahead of the first one.
        Check.stands("tail", x, 16, 5 * 599, 5 * 599, 1, 600, 0);
        Check.due("ended", x.run(1), 0);
        String nested = Code.lambda(Code.force(Code.apply(Code.variable(1), Code.variable(1))));
        TermMachine y = Code.ran(Code.apply(nested, nested), 100000);
        // 6 steps and one frame a time; the 201st frame would be an APPLY'S.
        Check.stands("nested", y, 16, 5 + 6 * 199 + 2, 5 + 6 * 199 + 2, 200, 202, 0);
        TermMachine z = Code.ran(Code.apply(tail, tail), 2000);
        Check.stands("budget", z, 15, 2001, 2000, 0, 402, 0);
    }

    private static void stands(String what, String term, int state, int frames, int values) {
        TermMachine x = Code.ran(term, 100000);
        Check.due(what + ": about(3)", x.about(3), state);
        Check.due(what + ": about(6)", x.about(6), frames);
        Check.due(what + ": about(7)", x.about(7), values);
    }

    private static void valuesOfTerms() {
        stands("error behind 600", Filled.behind(600, Code.error()), 12, 0, 600);
        String[] making = {Code.unit(), Code.delay(Code.error()), Code.lambda(Code.error()),
            Code.operation(8)};
        for (String term : making) {
            stands("600th of " + term, Filled.behind(599, term), 11, 0, 600);
            stands("601st of " + term, Filled.behind(600, term), 16, 0, 600);
        }
        stands("a variable behind 600", Filled.behind(600, Code.variable(1)), 11, 0, 600);
        stands("apply behind 600", Filled.behind(600, Code.apply(Code.error(), Code.unit())), 12, 1, 600);
    }

    private static void valuesOfOperations() {
        String length = Code.apply(Code.operation(8), Code.bytes(1, 2));
        String failing = Code.apply(Code.operation(8), Code.unit());
        stands("599 and 600", Filled.behind(596, length), 11, 0, 600);
        stands("600 and 601: none", Filled.behind(597, length), 16, 1, 599);
        stands("601 and 602: none", Filled.behind(598, length), 16, 1, 600);
        stands("failing, 599", Filled.behind(596, failing), 14, 0, 599);
        stands("failing, 600", Filled.behind(597, failing), 14, 0, 600);
        stands("failing, 601", Filled.behind(598, failing), 16, 1, 600);
        String choice = Code.apply(Code.force(Code.operation(6)), Code.truth(true), Code.unit(),
            Code.unit());
        stands("choice, 600", Filled.behind(592, choice), 11, 0, 600);
        stands("choice, 601", Filled.behind(593, choice), 16, 1, 600);
        String sequence = Code.apply(Code.force(Code.operation(10)), Code.unit(), Code.unit());
        stands("sequence, 600", Filled.behind(594, sequence), 11, 0, 600);
        stands("sequence, 601", Filled.behind(595, sequence), 16, 1, 600);
        // The step that is full costs what the operation costs.
        int free = Code.ran(Filled.behind(597, Code.error()), 100000).about(5);
        int full = Code.ran(Filled.behind(597, length), 100000).about(5);
        Check.due("costs of the full step", full - free + 1, 5 + 1);
    }

    private static void valuesOfFrames() {
        String forced = Code.force(Code.operation(6));
        stands("a force, 600", Filled.behind(598, forced), 11, 0, 600);
        stands("a force, 601", Filled.behind(599, forced), 16, 1, 600);
        String given = Code.apply(Code.operation(0), Code.unit());
        stands("an argument, 600", Filled.behind(597, given), 11, 0, 600);
        stands("an argument, 601", Filled.behind(598, given), 16, 1, 600);
        String applied = Code.apply(Code.lambda(Code.variable(1)), Code.unit());
        stands("a lambda's term, 600", Filled.behind(597, applied), 11, 0, 600);
        stands("a lambda's term, 601", Filled.behind(598, applied), 16, 1, 600);
        stands("a delayed term", Filled.behind(599, Code.force(Code.delay(Code.error()))), 12, 0, 600);
        stands("unfit is ahead of full", Filled.behind(598, Code.apply(Code.unit(), Code.unit())), 13, 0, 600);
        stands("unfit is ahead of full", Filled.behind(599, Code.force(Code.unit())), 13, 0, 600);
    }

    private static void frames() {
        String n = Code.number(24);
        stands("200 frames", Filled.countDown(n, Code.within(8, "101", Code.error()), 8), 12, 200, 499);
        stands("201 frames", Filled.countDown(n, Code.within(9, "101", Code.error()), 8), 16, 200, 499);
        String applied = Code.apply(Code.error(), Code.error());
        stands("200th of apply", Filled.countDown(n, Code.within(7, "101", applied), 8), 12, 200, 499);
        stands("201st of apply", Filled.countDown(n, Code.within(8, "101", applied), 8), 16, 200, 499);
        TermMachine x = Code.ran(Filled.countDown(n, Code.within(8, "101", Code.error()), 8), 100000);
        TermMachine y = Code.ran(Filled.countDown(n, Code.within(9, "101", Code.error()), 8), 100000);
        Check.due("the full step counts", y.about(4) - x.about(4), 0);
        Check.due("the full step costs", y.about(5) - x.about(5), 0);
    }

    private static void operationsOverBudget() {
        String join = Code.apply(Code.operation(7), Code.bytes(1, 2), Code.bytes(3));
        // 8 steps ahead of the one that does it, which costs 1 and 1 and 3.
        Check.stands("1 too few", Code.ran(join, 12), 15, 9, 8, 1, 4, 0);
        Check.stands("enough to do it", Code.ran(join, 13), 15, 10, 13, 0, 6, 0);
        Check.stands("enough", Code.ran(join, 14), 11, 10, 14, 0, 6, 6);
        String failing = Code.apply(Code.operation(3), Code.number(1), Code.number(0));
        Check.stands("failing, 1 too few", Code.ran(failing, 12), 15, 9, 8, 1, 4, 0);
        Check.stands("failing, enough", Code.ran(failing, 13), 14, 9, 13, 0, 5, 0);
        String unfit = Code.apply(Code.operation(3), Code.unit(), Code.unit());
        Check.stands("of no kind, 1 too few", Code.ran(unfit, 12), 15, 9, 8, 1, 4, 0);
        String full = Filled.behind(598, Code.apply(Code.operation(8), Code.unit()));
        int costs = Code.ran(full, 100000).about(5);
        Check.due("the budget is ahead of full", Code.ran(full, costs - 1).about(3), 15);
        Check.due("full at the budget", Code.ran(full, costs).about(3), 16);
    }
}
