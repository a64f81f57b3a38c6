import java.util.Arrays;

/**
 * Promises 1 to 7: each refused call in each state, which refusal comes first, what stays as it was
 * behind it, and the arguments that are too small or too large. The comments are the document's words.
 */
public final class CallBoundaryTest {
    private static final String UNIT = Code.unit();
    private static final String LOOP = Code.lambda(Code.apply(Code.variable(1), Code.variable(1)));
    // All that a wrong argument could be: next to the range, and as far from it as can be.
    private static final int[] WRONG_N = {0, 5, -1, 256, Integer.MIN_VALUE, Integer.MAX_VALUE};
    private static final int[] WRONG_BUDGET = {-1, 100001, Integer.MIN_VALUE, Integer.MAX_VALUE};
    private static final int[] WRONG_STEPS = {0, 101, -1, Integer.MIN_VALUE, Integer.MAX_VALUE};

    // The states that an object can be in, by the calls that bring it there.
    private static final int NEW = 0;
    private static final int WITH_TEXT = 1;
    private static final int FULL_TEXT = 2;
    private static final int WRONG_READ = 3;
    private static final int HAS_PROGRAM = 4;
    private static final int BEGUN = 5;
    private static final int COMPUTES = 6;
    private static final int RETURNS = 7;
    private static final int ENDED = 8;
    private static final int LAST_ENDED = 13;
    private static final int READ_AGAIN = 14;
    private static final int STATES = 15;

    public static void main(String[] args) {
        newObject();
        bytesOfFour();
        lengthOfText();
        for (int state = 0; state < STATES; state++) {
            refusedText(state);
            refusedBegin(state);
            refusedRun(state);
            toldAndAbout(state);
            readsWrong(state);
            readsEmpty(state);
        }
        readsRight();
        budgets();
        beginsAnew();
        stepsAtOnce();
        goesOnBehindRefusals();
        whatAboutTells();
        Check.close("CallBoundaryTest");
    }

    private static TermMachine in(int state) {
        TermMachine x = new TermMachine();
        switch (state) {
            case NEW:
                return x;
            case WITH_TEXT:
                x.text(0x0102, 2);
                return x;
            case FULL_TEXT:
                for (int i = 0; i < 20; i++) {
                    x.text(-1, 4);
                }
                return x;
            case WRONG_READ:
                Code.read(x, Code.program(9, Code.variable(1)));
                return x;
            case HAS_PROGRAM:
                Code.read(x, Code.program(9, Code.apply(LOOP, LOOP)));
                return x;
            case BEGUN:
            case COMPUTES:
            case RETURNS:
                return begun(state - BEGUN);
            case READ_AGAIN:
                Code.read(x, Code.program(9, UNIT));
                x.begin(100);
                x.run(100);
                Code.read(x, Code.program(10, Code.delay(UNIT)));
                return x;
            default:
                return ended(state - ENDED);
        }
    }

    // 3 steps: it computes; 2 steps: it returns; with some text besides.
    private static TermMachine begun(int which) {
        int[] steps = {0, 3, 2};
        TermMachine x = Code.begun(Code.apply(LOOP, LOOP), 5000);
        if (steps[which] > 0) {
            x.run(steps[which]);
        }
        x.text(5, 1);
        return x;
    }

    private static TermMachine ended(int how) {
        String[] terms = {Code.bytes(1, 255), Code.force(Code.error()), Code.apply(UNIT, Code.force(UNIT)),
            Code.apply(Code.operation(8), UNIT), UNIT, Code.apply(LOOP, LOOP)};
        int[] budgets = {100, 100, 100, 100, 1, 100000};
        TermMachine x = Code.ran(terms[how], budgets[how]);
        x.text(6, 3);
        return x;
    }

    /** What the object tells; the results here are short, and an object has 512 calls. */
    private static int[] all(TermMachine x) {
        int[] row = new int[9 + 12];
        for (int what = 0; what <= 8; what++) {
            row[what] = x.about(what);
        }
        for (int i = 0; i < 12; i++) {
            row[9 + i] = x.told(i);
        }
        return row;
    }

    private static void stays(String what, TermMachine x, int[] was) {
        Check.due(what + ": all stays as it was", Arrays.equals(all(x), was) ? 1 : 0, 1);
    }

    // "An empty text, no program."
    private static void newObject() {
        TermMachine x = new TermMachine();
        for (int what = 0; what <= 8; what++) {
            Check.due("new: about(" + what + ")", x.about(what), 0);
        }
        Check.due("new: told(0)", x.told(0), -1);
        Check.due("new: read()", x.read(), -1);
        Check.badState("new: begin(0)", () -> x.begin(0) ? 1 : 0);
        Check.badState("new: run(1)", () -> x.run(1));
        Check.due("new: the first byte", x.text(0, 1), 1);
    }

    // "The n lowest bytes of four, the highest first, come to the text"
    private static void bytesOfFour() {
        int[] fours = {0, -1, 1, Integer.MIN_VALUE, Integer.MAX_VALUE, 0x12345678, 0xFEDCBA98, 0x80402001};
        for (int four : fours) {
            for (int n = 1; n <= 4; n++) {
                TermMachine x = new TermMachine();
                Code.feed(x, "00000000" + "10011" + Code.bits(n, 3));
                Check.due("length with " + n, x.text(four, n), 2 + n);
                x.text(1, 1);
                Check.due("read() with " + n, x.read(), 1);
                x.begin(9);
                x.run(9);
                for (int i = 0; i < n; i++) {
                    Check.due("byte " + i + " of " + n, x.told(3 + i), four >>> (8 * (n - 1 - i)) & 255);
                }
            }
        }
    }

    // "IllegalStateException: it would have more than 80."
    private static void lengthOfText() {
        for (int n = 1; n <= 4; n++) {
            int much = n;
            for (int length = 76; length <= 80; length++) {
                TermMachine x = new TermMachine();
                for (int i = 0; i < length; i++) {
                    Check.due("length", x.text(255, 1), i + 1);
                }
                int[] was = all(x);
                if (length + n > 80) {
                    Check.badState(length + " and " + n, () -> x.text(0, much));
                    stays(length + " and " + n, x, was);
                } else {
                    Check.due(length + " and " + n, x.text(0, n), length + n);
                    Check.due(length + " and " + n + ": about(0)", x.about(0), length + n);
                }
            }
        }
        TermMachine y = in(FULL_TEXT);
        y.read();
        for (int i = 1; i <= 20; i++) {
            Check.due("80 once more", y.text(0, 4), 4 * i);
        }
    }

    // "IllegalArgumentException: n is not 1 .. 4 (that first)."
    private static void refusedText(int state) {
        TermMachine x = in(state);
        int[] was = all(x);
        for (int n : WRONG_N) {
            Check.badArgument("state " + state + ": text(0, " + n + ")", () -> x.text(0, n));
            stays("state " + state + ": text(0, " + n + ")", x, was);
        }
        if (state == FULL_TEXT) {
            for (int n = 1; n <= 4; n++) {
                int much = n;
                Check.badState("full: text(0, " + n + ")", () -> x.text(0, much));
                stays("full: text(0, " + n + ")", x, was);
            }
        } else {
            Check.due("state " + state + ": text(0, 4)", x.text(0, 4), was[0] + 4);
            was[0] += 4;
            stays("state " + state + ": but for the text", x, was);
        }
    }

    // "IllegalArgumentException: budget is not 0 .. 100000 (that first). IllegalStateException: there
    // is no program."
    private static void refusedBegin(int state) {
        TermMachine x = in(state);
        int[] was = all(x);
        for (int budget : WRONG_BUDGET) {
            Check.badArgument("state " + state + ": begin(" + budget + ")", () -> x.begin(budget) ? 1 : 0);
            stays("state " + state + ": begin(" + budget + ")", x, was);
        }
        int[] right = {0, 1, 99999, 100000};
        for (int budget : right) {
            if (was[1] == 0) {
                Check.badState("state " + state + ": begin(" + budget + ")", () -> x.begin(budget) ? 1 : 0);
                stays("state " + state + ": begin(" + budget + ")", x, was);
            } else {
                Check.due("state " + state + ": begin(" + budget + ")", x.begin(budget) ? 1 : 0, 1);
                Check.stands("state " + state + ": begun", x, 1, 0, 0, 0, 0, 0);
            }
        }
        Check.due("state " + state + ": text behind begin", x.about(0), was[0]);
        Check.due("state " + state + ": terms behind begin", x.about(1), was[1]);
        Check.due("state " + state + ": version behind begin", x.about(2), was[2]);
    }

    // "IllegalArgumentException: n is not 1 .. 100 (that first). IllegalStateException: nothing was
    // begun since the latest read() that made a program."
    private static void refusedRun(int state) {
        TermMachine x = in(state);
        int[] was = all(x);
        for (int n : WRONG_STEPS) {
            Check.badArgument("state " + state + ": run(" + n + ")", () -> x.run(n));
            stays("state " + state + ": run(" + n + ")", x, was);
        }
        int[] right = {1, 100};
        for (int n : right) {
            String what = "state " + state + ": run(" + n + ")";
            if (was[3] == 0) {
                Check.badState(what, () -> x.run(n));
                stays(what, x, was);
            } else if (was[3] >= 10) {
                Check.due(what, x.run(n), 0);
                stays(what, x, was);
            } else {
                Check.due(what, x.run(n), n);
            }
        }
    }

    // "NONE when there is none"; "NONE for another what."
    private static void toldAndAbout(int state) {
        TermMachine x = in(state);
        int[] was = all(x);
        int[] whats = {-1, 9, 10, -2147483640, Integer.MIN_VALUE, Integer.MAX_VALUE};
        for (int what : whats) {
            Check.due("state " + state + ": about(" + what + ")", x.about(what), -1);
        }
        int[] none = {-1, was[8], 400, Integer.MIN_VALUE, Integer.MAX_VALUE};
        for (int i : none) {
            Check.due("state " + state + ": told(" + i + ")", x.told(i), -1);
        }
        Check.due("state " + state + ": has a result", was[8] > 0 ? 1 : 0, state == ENDED ? 1 : 0);
        boolean ended = state >= ENDED && state <= LAST_ENDED;
        Check.due("state " + state + ": ended", was[3] >= 10 ? was[3] : 0, ended ? 11 + state - ENDED : 0);
        stays("state " + state + ": told", x, was);
    }

    // "or what is wrong, and all else stays (what was begun can go on then)"
    private static void readsWrong(int state) {
        String[] rows = {Code.program(77, Code.variable(1)), Code.program(77, Code.operation(12)),
            "00000000", Code.program(77, UNIT) + "00000001", Code.program(2147483648L, UNIT),
            Code.program(77, Code.within(21, "001", UNIT)), Code.program(77, Code.tree(31, UNIT))};
        for (String row : rows) {
            TermMachine x = in(state);
            // Else the wrong text would stand behind another one.
            x.read();
            int[] was = all(x);
            Code.feed(x, row);
            Check.due("state " + state + ": the text is there", x.about(0), row.length() / 8);
            Check.due("state " + state + ": wrong", x.read() < 0 ? 1 : 0, 1);
            stays("state " + state + ": wrong", x, was);
            sameAsUndisturbed(state, x);
        }
    }

    // "(an empty text: -1)"; "The text is read as a program, and empty then."
    private static void readsEmpty(int state) {
        TermMachine x = in(state);
        boolean empty = x.about(0) == 0;
        int[] was = all(x);
        int answer = x.read();
        Check.due("state " + state + ": wrong", answer < 0 ? 1 : 0, 1);
        Check.due("state " + state + ": -1 if it was empty", empty ? answer : -1, -1);
        was[0] = 0;
        stays("state " + state + ": read()", x, was);
        Check.due("state " + state + ": read() again", x.read(), -1);
        stays("state " + state + ": read() again", x, was);
        sameAsUndisturbed(state, x);
    }

    private static void sameAsUndisturbed(int state, TermMachine x) {
        TermMachine y = in(state);
        y.read();
        if (y.about(3) > 0) {
            Code.finish(x);
            Code.finish(y);
        } else if (y.about(1) > 0) {
            x.begin(300);
            y.begin(300);
            Code.finish(x);
            Code.finish(y);
        } else {
            Check.badState("state " + state + ": no program still", () -> x.begin(1) ? 1 : 0);
        }
        stays("state " + state + ": as if it had not been disturbed", x, all(y));
    }

    // "Answers how many terms it has, and it is the program (not begun)"
    private static void readsRight() {
        for (int state = 0; state < STATES; state++) {
            TermMachine x = in(state);
            x.read();
            Check.due("state " + state + ": read()", Code.read(x, Code.program(3, Code.delay(UNIT))), 2);
            int[] want = {0, 2, 3, 0, 0, 0, 0, 0, 0};
            for (int what = 0; what <= 8; what++) {
                Check.due("state " + state + ": read, about(" + what + ")", x.about(what), want[what]);
            }
            Check.tells("state " + state + ": read", x);
            Check.badState("state " + state + ": read, run(1)", () -> x.run(1));
            Check.due("state " + state + ": begin", x.begin(2) ? 1 : 0, 1);
            Check.due("state " + state + ": run", x.run(100), 2);
            Check.tells("state " + state + ": its result", x, 1, 4, 2);
        }
    }

    // "budget is not 0 .. 100000": the least one, the largest, and those that are just enough
    private static void budgets() {
        TermMachine x = new TermMachine();
        Code.read(x, Code.program(0, UNIT));
        x.begin(0);
        Check.due("budget 0: run", x.run(1), 1);
        Check.stands("budget 0", x, 15, 1, 0, 0, 0, 0);
        x.begin(1);
        Check.due("budget 1: run", x.run(100), 2);
        Check.stands("budget 1", x, 15, 2, 1, 0, 1, 0);
        x.begin(2);
        Check.due("budget 2: run", x.run(100), 2);
        Check.stands("budget 2", x, 11, 2, 2, 0, 1, 2);
        x.begin(100000);
        Check.due("budget 100000: run", x.run(100), 2);
        Check.stands("budget 100000", x, 11, 2, 2, 0, 1, 2);
    }

    // "The program begins, with a budget (anew, also when something was begun). True."
    private static void beginsAnew() {
        for (int state = BEGUN; state <= LAST_ENDED; state++) {
            TermMachine x = in(state);
            TermMachine y = in(state);
            Check.due("state " + state + ": anew", x.begin(40) ? 1 : 0, 1);
            Check.stands("state " + state + ": anew", x, 1, 0, 0, 0, 0, 0);
            Check.tells("state " + state + ": anew", x);
            y.begin(40);
            y.begin(100000);
            y.begin(40);
            Code.finish(x);
            Code.finish(y);
            stays("state " + state + ": anew three times", x, all(y));
            Check.due("state " + state + ": costs", x.about(5) <= 40 ? 1 : 0, 1);
        }
    }

    // "Up to n steps": 100 are the most of one call
    private static void stepsAtOnce() {
        TermMachine x = Code.begun(Code.apply(LOOP, LOOP), 100000);
        Check.due("run(100)", x.run(100), 100);
        Check.due("run(99)", x.run(99), 99);
        Check.due("run(1)", x.run(1), 1);
        Check.due("about(4)", x.about(4), 200);
        Check.due("about(5)", x.about(5), 200);
        TermMachine y = Code.begun(Code.apply(LOOP, LOOP), 99);
        Check.due("the 100th ends it", y.run(100), 100);
        Check.stands("the 100th ends it", y, 15, 100, 99);
        TermMachine z = Code.begun(Code.apply(LOOP, LOOP), 100);
        Check.due("the 101st would end it", z.run(100), 100);
        Check.due("the 101st would end it: about(3)", z.about(3) < 10 ? 1 : 0, 1);
        Check.due("the 101st ends it", z.run(100), 1);
        Check.stands("the 101st ends it", z, 15, 101, 100);
    }

    private static void goesOnBehindRefusals() {
        String term = Code.apply(Code.operation(0), Code.number(2), Code.number(3));
        TermMachine x = Code.begun(term, 100);
        TermMachine y = Code.begun(term, 100);
        for (int i = 0; i < 10; i++) {
            Check.badArgument("begin(-1)", () -> x.begin(-1) ? 1 : 0);
            Check.badArgument("run(101)", () -> x.run(101));
            Check.badArgument("text(0, 5)", () -> x.text(0, 5));
            Check.due("read()", x.read(), -1);
            Check.due("a step", x.run(1), y.run(1));
            stays("a step", x, all(y));
        }
        Check.tells("the sum", x, 4, 0, 5);
    }

    // "about(what)": 4 to 7 are 0 where nothing is begun, 8 is 0 if there is none
    private static void whatAboutTells() {
        TermMachine x = in(READ_AGAIN);
        int[] want = {0, 2, 10, 0, 0, 0, 0, 0, 0};
        for (int what = 0; what <= 8; what++) {
            Check.due("read again: about(" + what + ")", x.about(what), want[what]);
        }
        int[] states = {NEW, WITH_TEXT, FULL_TEXT, WRONG_READ, HAS_PROGRAM};
        int[] lengths = {0, 2, 80, 0, 0};
        for (int state : states) {
            TermMachine y = in(state);
            Check.due("state " + state + ": about(0)", y.about(0), lengths[state]);
            Check.due("state " + state + ": about(1)", y.about(1), state == HAS_PROGRAM ? 9 : 0);
            Check.due("state " + state + ": about(2)", y.about(2), state == HAS_PROGRAM ? 9 : 0);
            Check.stands("state " + state, y, 0, 0, 0, 0, 0, 0);
        }
        Check.stands("begun", in(BEGUN), 1, 0, 0, 0, 0, 0);
        Check.stands("computes", in(COMPUTES), 1, 3, 3, 1, 1, 0);
        Check.stands("returns", in(RETURNS), 2, 2, 2, 1, 1, 0);
        // "as they were at its end: with 3 and 4 the latest one has gone"
        int[][] ends = {{11, 2, 2, 0, 1, 5}, {12, 2, 2, 1, 0, 0}, {13, 6, 6, 1, 2, 0}, {14, 5, 6, 0, 3, 0},
            {15, 2, 1, 0, 1, 0}, {16, 2995, 2995, 1, 600, 0}};
        for (int how = 0; how < 6; how++) {
            Check.stands("end " + (how + 1), in(ENDED + how), ends[how]);
        }
    }
}
