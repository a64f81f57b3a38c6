import java.util.ArrayList;
import java.util.Arrays;
import java.util.List;

/** Promise 6: told, and the result as a term. */
public final class ToldTest {
    public static void main(String[] args) {
        constants();
        termsAsRead();
        environments();
        partials();
        cutOff();
        deep();
        whenThereIsNone();
        Check.close("ToldTest");
    }

    private static void tells(String what, String term, int... want) {
        Check.tells(what, Code.ran(term, 100000), want);
    }

    private static void constants() {
        tells("a number", Code.number(77), 4, 0, 77);
        tells("-1", Code.number(-1), 4, 0, -1);
        tells("true", Code.truth(true), 4, 1, 1);
        tells("false", Code.truth(false), 4, 1, 0);
        tells("unit", Code.unit(), 4, 2);
        tells("no bytes", Code.bytes(), 4, 3, 0);
        tells("bytes", Code.bytes(0, 255, 128), 4, 3, 3, 0, 255, 128);
        tells("7 bytes", Code.bytes(1, 2, 3, 4, 5, 6, 0), 4, 3, 7, 1, 2, 3, 4, 5, 6, 0);
    }

    private static void termsAsRead() {
        tells("delay", Code.delay(Code.delay(Code.error())), 1, 1, 6);
        tells("lambda", Code.lambda(Code.lambda(Code.variable(2))), 2, 2, 0, 2);
        tells("apply", Code.delay(Code.apply(Code.error(), Code.unit(), Code.number(3))),
            1, 3, 3, 6, 4, 2, 4, 0, 3);
        tells("force", Code.delay(Code.force(Code.operation(10))), 1, 5, 7, 10);
        tells("bytes", Code.lambda(Code.bytes(3, 4)), 2, 4, 3, 2, 3, 4);
        tells("truth", Code.lambda(Code.truth(true)), 2, 4, 1, 1);
        tells("bound", Code.lambda(Code.delay(Code.lambda(Code.apply(Code.variable(1), Code.variable(2))))),
            2, 1, 2, 3, 0, 1, 0, 2);
    }

    private static void environments() {
        String two = Code.lambda(Code.lambda(Code.delay(Code.apply(Code.variable(1), Code.variable(2)))));
        tells("the latest is k 1", Code.apply(two, Code.number(5), Code.unit()), 1, 3, 4, 2, 4, 0, 5);
        String under = Code.lambda(Code.lambda(Code.apply(Code.variable(1), Code.variable(2))));
        tells("bound and free", Code.apply(under, Code.number(5)), 2, 3, 0, 1, 4, 0, 5);
        String deeper = Code.lambda(Code.lambda(Code.lambda(
            Code.apply(Code.variable(1), Code.variable(2), Code.variable(3)))));
        tells("free behind two", Code.apply(deeper, Code.unit()), 2, 2, 3, 3, 0, 1, 0, 2, 4, 2);
        // A value from an environment has one of its own, and its variables are not of the place.
        String kept = Code.apply(Code.lambda(Code.lambda(Code.variable(2))), Code.number(9));
        String holder = Code.lambda(Code.lambda(Code.lambda(Code.variable(3))));
        tells("a value with its own", Code.apply(holder, kept), 2, 2, 2, 4, 0, 9);
        String own = Code.lambda(Code.variable(1));
        tells("a lambda put in", Code.apply(holder, own), 2, 2, 2, 0, 1);
        tells("twice", Code.apply(Code.lambda(Code.delay(Code.apply(Code.variable(1), Code.variable(1)))),
            Code.delay(Code.error())), 1, 3, 1, 6, 1, 6);
    }

    private static void partials() {
        for (int n = 0; n <= 11; n++) {
            tells("operation " + n, Code.operation(n), 7, n);
        }
        String unit = Code.unit();
        String six = Code.force(Code.operation(6));
        tells("one of 0", Code.apply(Code.operation(0), unit), 3, 7, 0, 4, 2);
        tells("force of 6", six, 5, 7, 6);
        tells("one of 6", Code.apply(six, unit), 3, 5, 7, 6, 4, 2);
        tells("two of 6", Code.apply(six, unit, Code.number(4)), 3, 3, 5, 7, 6, 4, 2, 4, 0, 4);
        tells("a partial one in it", Code.apply(six, Code.apply(Code.operation(4), Code.number(1)), unit),
            3, 3, 5, 7, 6, 3, 7, 4, 4, 0, 1, 4, 2);
        String held = Code.apply(Code.lambda(Code.delay(Code.variable(1))), Code.apply(six, unit, unit));
        tells("held", held, 1, 3, 3, 5, 7, 6, 4, 2, 4, 2);
    }

    private static void cutOff() {
        doubling();
        // 1 and 12 APPLYs' 3 and 13 times the argument's numbers: 390 and 403 of them.
        String[] all = new String[12];
        Arrays.fill(all, Code.variable(1));
        String holder = Code.lambda(Code.delay(Code.apply(Code.variable(1), all)));
        tells("390", Code.apply(holder, sized(29)), held(12, 13, 29, 390));
        tells("cut off at 400 of 403", Code.apply(holder, sized(30)), held(12, 13, 30, 400));
        // 1 and 9 and 10 times 39: all of 400.
        String ten = Code.lambda(Code.delay(Code.apply(Code.variable(1), Arrays.copyOf(all, 9))));
        tells("400", Code.apply(ten, sized(39)), held(9, 10, 39, 400));
    }

    // Each time round the value is held twice, which doubles its numbers and adds 2.
    private static void doubling() {
        String twice = Code.lambda(Code.delay(Code.apply(Code.variable(1), Code.variable(1))));
        String row = Code.delay(Code.error());
        int numbers = 2;
        for (int i = 0; i < 10; i++) {
            TermMachine x = Code.ran(Code.apply(Code.lambda(row), twice), 1000);
            Check.due("doubled " + i, x.about(8), Math.min(400, numbers));
            Check.due("doubled " + i + ": told(0)", x.told(0), 1);
            Check.due("doubled " + i + ": told(400)", x.told(400), -1);
            row = Code.apply(Code.variable(1), row);
            numbers = 2 + 2 * numbers;
        }
    }

    private static final int[] TAIL = {
        3, 4, 3, 7, 1, 2, 3, 4, 5, 6, 255, 4, 3, 7, 9, 8, 7, 6, 5, 4, 3};

    // DELAYs, and 21 numbers of an APPLY of bytes to bytes.
    private static String sized(int numbers) {
        String pair = Code.apply(Code.bytes(1, 2, 3, 4, 5, 6, 255), Code.bytes(9, 8, 7, 6, 5, 4, 3));
        return Code.within(numbers - TAIL.length, "001", pair);
    }

    private static int[] held(int applies, int times, int size, int most) {
        List<Integer> all = new ArrayList<>();
        all.add(1);
        for (int i = 0; i < applies; i++) {
            all.add(3);
        }
        for (int i = 0; i < times; i++) {
            for (int j = 0; j < size; j++) {
                int behind = j - (size - TAIL.length);
                all.add(behind < 0 ? 1 : TAIL[behind]);
            }
        }
        int[] row = new int[Math.min(most, all.size())];
        for (int i = 0; i < row.length; i++) {
            row[i] = all.get(i);
        }
        return row;
    }

    // Each time round puts the former value into DELAYs: values hold one another 64 deep.
    private static void deep() {
        String twice = Code.lambda(Code.lambda(Code.apply(Code.variable(2),
            Code.apply(Code.variable(2), Code.variable(1)))));
        String thrice = Code.lambda(Code.lambda(Code.apply(Code.variable(2),
            Code.apply(Code.variable(2), Code.apply(Code.variable(2), Code.variable(1))))));
        String round = Code.apply(thrice, Code.apply(twice, twice));
        int[] want = new int[386];
        Arrays.fill(want, 1);
        want[384] = 4;
        want[385] = 2;
        String six = Code.lambda(Code.within(6, "001", Code.variable(1)));
        tells("64 times 6", Code.apply(round, six, Code.unit()), want);
        int[] cut = new int[400];
        Arrays.fill(cut, 1);
        String seven = Code.lambda(Code.within(7, "001", Code.variable(1)));
        tells("64 times 7", Code.apply(round, seven, Code.unit()), cut);
    }

    private static void whenThereIsNone() {
        Check.tells("an error", Code.ran(Code.error(), 9));
        Check.tells("over the budget", Code.ran(Code.unit(), 1));
        TermMachine x = Code.begun(Code.unit(), 9);
        Check.tells("begun", x);
        x.run(1);
        Check.tells("on the way", x);
        x.run(1);
        Check.tells("at the end", x, 4, 2);
        int[] wrong = {-1, 2, 400, Integer.MAX_VALUE, Integer.MIN_VALUE};
        for (int i : wrong) {
            Check.due("told(" + i + ")", x.told(i), -1);
        }
        x.text(1, 1);
        x.run(1);
        Check.tells("stays", x, 4, 2);
        x.begin(9);
        Check.tells("begun again", x);
    }
}
