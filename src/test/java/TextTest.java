/** Promise 2: text. */
public final class TextTest {
    public static void main(String[] args) {
        lengths();
        order();
        wrongArguments();
        tooLong();
        Check.close("TextTest");
    }

    private static void lengths() {
        TermMachine x = new TermMachine();
        Check.due("text(0, 1)", x.text(0, 1), 1);
        Check.due("text(-1, 2)", x.text(-1, 2), 3);
        Check.due("text(5, 3)", x.text(5, 3), 6);
        Check.due("text(1 << 31, 4)", x.text(1 << 31, 4), 10);
        Check.due("about(0)", x.about(0), 10);
        x.read();
        Check.due("about(0) when read", x.about(0), 0);
        Check.due("text when read", x.text(0, 4), 4);
    }

    // The version's groups tell which byte came first, and that higher bytes stay out.
    private static void order() {
        version("four", 0x818203C1, 4, new int[] {}, 1 | 2 << 7 | 3 << 14);
        version("three of four", 0xFF8102C1, 3, new int[] {}, 1 | 2 << 7);
        version("two of four", 0xFFFF05C1, 2, new int[] {}, 5);
        version("one at a time", 0xFFFFFF84, 1, new int[] {0xFFFFFF06, 0x123456C1}, 4 | 6 << 7);
    }

    private static void version(String what, int four, int n, int[] more, int want) {
        TermMachine x = new TermMachine();
        x.text(four, n);
        for (int one : more) {
            x.text(one, 1);
        }
        Check.due(what + ": read()", x.read(), 1);
        Check.due(what + ": about(2)", x.about(2), want);
    }

    private static void wrongArguments() {
        TermMachine x = new TermMachine();
        x.text(1, 2);
        int[] wrong = {0, 5, -1, Integer.MAX_VALUE, Integer.MIN_VALUE};
        for (int n : wrong) {
            Check.badArgument("text(0, " + n + ")", () -> x.text(0, n));
        }
        Check.due("stays", x.about(0), 2);
    }

    private static void tooLong() {
        TermMachine x = new TermMachine();
        for (int i = 0; i < 19; i++) {
            x.text(0, 4);
        }
        x.text(0, 1);
        Check.badState("81", () -> x.text(0, 4));
        Check.due("stays at 77", x.about(0), 77);
        Check.due("80", x.text(0, 3), 80);
        Check.badState("80 and 1", () -> x.text(0, 1));
        Check.badArgument("n first", () -> x.text(0, 0));
        Check.badArgument("n first", () -> x.text(0, 5));
        Check.due("stays at 80", x.about(0), 80);
        x.read();
        Check.due("again", x.text(0, 1), 1);
    }
}
