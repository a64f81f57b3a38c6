/** Promise 7: about. */
public final class AboutTest {
    public static void main(String[] args) {
        otherWhats();
        textAndProgram();
        states();
        framesAtTheEnd();
        changesNothing();
        Check.close("AboutTest");
    }

    private static void otherWhats() {
        int[] others = {-1, 9, 10, 100, Integer.MIN_VALUE, Integer.MAX_VALUE};
        TermMachine empty = new TermMachine();
        TermMachine done = Code.ran(Code.unit(), 9);
        for (int what : others) {
            Check.due("new: about(" + what + ")", empty.about(what), -1);
            Check.due("done: about(" + what + ")", done.about(what), -1);
        }
    }

    private static void textAndProgram() {
        TermMachine x = new TermMachine();
        x.text(0, 3);
        Check.due("about(0)", x.about(0), 3);
        Check.due("about(1)", x.about(1), 0);
        x.read();
        Check.due("about(0) behind a wrong text", x.about(0), 0);
        Check.due("about(2) behind a wrong text", x.about(2), 0);
        Code.feed(x, Code.program(300, Code.variable(1)));
        x.read();
        Check.due("about(2) behind a wrong text with a version", x.about(2), 0);
        Code.feed(x, Code.program(300, Code.delay(Code.unit())));
        Check.due("about(1) ahead of read", x.about(1), 0);
        x.read();
        Check.due("about(1)", x.about(1), 2);
        Check.due("about(2)", x.about(2), 300);
        x.begin(5);
        x.text(0, 2);
        Check.due("about(0) when begun", x.about(0), 2);
        Check.due("about(1) when begun", x.about(1), 2);
        Check.due("about(2) when begun", x.about(2), 300);
    }

    private static void states() {
        TermMachine x = new TermMachine();
        Code.read(x, Code.program(0, Code.apply(Code.operation(8), Code.bytes(1, 2, 3))));
        Check.stands("not begun", x, 0, 0, 0, 0, 0, 0);
        x.begin(100);
        Check.stands("begun", x, 1, 0, 0, 0, 0, 0);
        x.run(2);
        Check.stands("returns", x, 2, 2, 2, 1, 1, 0);
        x.run(1);
        Check.stands("computes", x, 1, 3, 3, 1, 1, 0);
        x.run(100);
        Check.stands("ended", x, 11, 6, 7, 0, 4, 3);
        Code.read(x, Code.program(0, Code.unit()));
        Check.stands("another program", x, 0, 0, 0, 0, 0, 0);
        int[] ends = {11, 12, 13, 14, 15, 16};
        String loop = Code.lambda(Code.apply(Code.variable(1), Code.variable(1)));
        String[] terms = {Code.unit(), Code.error(), Code.force(Code.unit()),
            Code.apply(Code.operation(8), Code.unit()),
            Code.apply(Code.lambda(Code.variable(1)), Code.delay(Code.apply(loop, loop))),
            Code.apply(loop, loop)};
        int[] budgets = {100, 100, 100, 100, 6, 100000};
        for (int i = 0; i < ends.length; i++) {
            Check.due("end " + ends[i], Code.ran(terms[i], budgets[i]).about(3), ends[i]);
        }
    }

    // One frame of an outer APPLY stays; that of the step itself goes with 3 and 4 alone.
    private static void framesAtTheEnd() {
        String outer = Code.lambda(Code.variable(1));
        framesOf("2", Code.apply(outer, Code.force(Code.error())), 1000, 12, 2);
        framesOf("3", Code.apply(outer, Code.force(Code.unit())), 1000, 13, 1);
        framesOf("3", Code.apply(outer, Code.apply(Code.unit(), Code.unit())), 1000, 13, 1);
        framesOf("4", Code.apply(outer, Code.apply(Code.operation(8), Code.unit())), 1000, 14, 1);
        framesOf("5", Code.apply(outer, Code.apply(Code.operation(8), Code.unit())), 8, 15, 2);
    }

    private static void framesOf(String what, String term, int budget, int state, int frames) {
        TermMachine x = Code.ran(term, budget);
        Check.due("ended with " + what, x.about(3), state);
        Check.due("frames with " + what, x.about(6), frames);
    }

    private static void changesNothing() {
        TermMachine x = Code.begun(Code.apply(Code.operation(8), Code.bytes(1)), 100);
        for (int i = 0; i < 6; i++) {
            for (int what = -1; what <= 9; what++) {
                x.about(what);
                x.told(what);
            }
            Check.due("goes on", x.run(1), 1);
        }
        Check.tells("its result", x, 4, 0, 1);
    }
}
