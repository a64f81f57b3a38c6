/** Promise 4: begin. */
public final class BeginTest {
    public static void main(String[] args) {
        arguments();
        anew();
        budgets();
        Check.close("BeginTest");
    }

    private static void arguments() {
        TermMachine x = new TermMachine();
        int[] wrong = {-1, 100001, Integer.MIN_VALUE, Integer.MAX_VALUE};
        for (int budget : wrong) {
            Check.badArgument("no program: begin(" + budget + ")", () -> x.begin(budget) ? 1 : 0);
        }
        Check.badState("no program: begin(0)", () -> x.begin(0) ? 1 : 0);
        Check.badState("no program: begin(100000)", () -> x.begin(100000) ? 1 : 0);
        Code.read(x, Code.program(0, Code.unit()));
        for (int budget : wrong) {
            Check.badArgument("begin(" + budget + ")", () -> x.begin(budget) ? 1 : 0);
        }
        Check.due("nothing begun", x.about(3), 0);
        Check.due("begin(0)", x.begin(0) ? 1 : 0, 1);
        Check.due("begun", x.about(3), 1);
        Check.due("begin(100000)", x.begin(100000) ? 1 : 0, 1);
    }

    private static void anew() {
        String term = Code.apply(Code.operation(0), Code.number(2), Code.number(3));
        TermMachine x = Code.begun(term, 100);
        Check.stands("begun", x, 1, 0, 0, 0, 0, 0);
        x.run(4);
        Check.badArgument("begin(-1)", () -> x.begin(-1) ? 1 : 0);
        Check.stands("goes on", x, 1, 4, 4, 2, 1, 0);
        Check.due("anew on the way", x.begin(100) ? 1 : 0, 1);
        Check.stands("anew on the way", x, 1, 0, 0, 0, 0, 0);
        Check.due("all steps", x.run(100), 10);
        Check.tells("result", x, 4, 0, 5);
        Check.due("anew at the end", x.begin(4) ? 1 : 0, 1);
        Check.stands("anew at the end", x, 1, 0, 0, 0, 0, 0);
        Check.tells("no result", x);
        Check.due("another budget", x.run(100), 5);
        Check.stands("another budget", x, 15, 5, 4, 2, 1, 0);
        x.begin(100);
        x.run(100);
        Check.tells("result again", x, 4, 0, 5);
        Check.due("program stays", x.about(1), 5);
    }

    private static void budgets() {
        TermMachine x = Code.ran(Code.unit(), 0);
        Check.stands("budget 0", x, 15, 1, 0, 0, 0, 0);
        x.begin(1);
        x.run(100);
        Check.stands("budget 1", x, 15, 2, 1, 0, 1, 0);
        x.begin(2);
        x.run(100);
        Check.stands("budget 2", x, 11, 2, 2, 0, 1, 2);
    }
}
