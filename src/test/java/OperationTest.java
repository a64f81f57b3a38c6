/** Promise 5: what each operation wants, gives and costs. */
public final class OperationTest {
    private static final int MIN = -1073741824;
    private static final int MAX = 1073741823;
    private static final int[] FORCES = {0, 0, 0, 0, 0, 0, 1, 0, 0, 0, 1, 0};

    public static void main(String[] args) {
        sums();
        products();
        quotients();
        comparisons();
        choices();
        bytes();
        kinds();
        wholeRange();
        oneBehindAnother();
        Check.close("OperationTest");
    }

    private static String term(int operation, String... arguments) {
        String head = Code.operation(operation);
        return Code.apply(FORCES[operation] == 1 ? Code.force(head) : head, arguments);
    }

    // Arguments are constants, LAMBDAs or DELAYs: one step and one value each.
    private static void gives(int operation, int cost, String[] arguments, int... result) {
        String what = "operation " + operation + " to " + String.join(" ", arguments);
        TermMachine x = Code.ran(term(operation, arguments), 1000);
        int many = arguments.length;
        int forces = FORCES[operation];
        int steps = 4 * many + 2 * forces + 2;
        int made = 1 + forces + 2 * many + (operation == 6 || operation == 10 ? 0 : 1);
        Check.stands(what, x, 11, steps, steps + cost, 0, made);
        Check.tells(what, x, result);
    }

    private static void fails(int operation, int cost, String... arguments) {
        String what = "operation " + operation + " to " + String.join(" ", arguments);
        TermMachine x = Code.ran(term(operation, arguments), 1000);
        int many = arguments.length;
        int forces = FORCES[operation];
        int steps = 4 * many + 2 * forces + 1;
        Check.stands(what, x, 14, steps, steps + cost, 0, 1 + forces + 2 * many, 0);
        Check.tells(what, x);
    }

    private static String[] numbers(long... all) {
        String[] row = new String[all.length];
        for (int i = 0; i < all.length; i++) {
            row[i] = Code.number(all[i]);
        }
        return row;
    }

    private static void sums() {
        gives(0, 2, numbers(5, 7), 4, 0, 12);
        gives(0, 2, numbers(-5, 3), 4, 0, -2);
        gives(0, 2, numbers(MAX, MAX), 4, 0, 2147483646);
        gives(0, 2, numbers(MIN, MIN), 4, 0, Integer.MIN_VALUE);
        gives(1, 2, numbers(5, 7), 4, 0, -2);
        gives(1, 2, numbers(MAX, MIN), 4, 0, Integer.MAX_VALUE);
        gives(1, 2, numbers(MIN, MAX), 4, 0, -2147483647);
    }

    private static void products() {
        gives(2, 4, numbers(-6, 7), 4, 0, -42);
        gives(2, 4, numbers(0, MIN), 4, 0, 0);
        gives(2, 4, numbers(MIN, 2), 4, 0, Integer.MIN_VALUE);
        fails(2, 4, numbers(MIN, -2));
        fails(2, 4, numbers(65536, 32768));
        gives(2, 4, numbers(-65536, 32768), 4, 0, Integer.MIN_VALUE);
        fails(2, 4, numbers(MIN, MIN));
        fails(2, 4, numbers(MAX, 3));
    }

    private static void quotients() {
        gives(3, 4, numbers(7, 2), 4, 0, 3);
        gives(3, 4, numbers(-7, 2), 4, 0, -3);
        gives(3, 4, numbers(7, -2), 4, 0, -3);
        gives(3, 4, numbers(-7, -2), 4, 0, 3);
        gives(3, 4, numbers(0, 5), 4, 0, 0);
        gives(3, 4, numbers(MIN, -1), 4, 0, -MIN);
        fails(3, 4, numbers(7, 0));
        fails(3, 4, numbers(0, 0));
    }

    private static void comparisons() {
        gives(4, 2, numbers(3, 3), 4, 1, 1);
        gives(4, 2, numbers(3, -3), 4, 1, 0);
        gives(5, 2, numbers(2, 3), 4, 1, 1);
        gives(5, 2, numbers(3, 3), 4, 1, 0);
        gives(5, 2, numbers(3, 2), 4, 1, 0);
        gives(5, 2, numbers(MIN, MAX), 4, 1, 1);
    }

    private static void choices() {
        String delayed = Code.delay(Code.error());
        gives(6, 1, new String[] {Code.truth(true), Code.number(1), delayed}, 4, 0, 1);
        gives(6, 1, new String[] {Code.truth(false), Code.number(1), delayed}, 1, 6);
        gives(10, 1, new String[] {Code.unit(), delayed}, 1, 6);
        gives(10, 1, new String[] {Code.unit(), Code.operation(0)}, 7, 0);
        fails(6, 1, Code.number(1), Code.number(1), Code.number(2));
        fails(6, 1, Code.unit(), Code.truth(true), Code.truth(true));
        fails(10, 1, Code.truth(true), Code.unit());
    }

    private static void bytes() {
        String none = Code.bytes();
        String three = Code.bytes(1, 255, 0);
        String four = Code.bytes(9, 8, 7, 6);
        String seven = Code.bytes(255, 2, 3, 4, 5, 6, 128);
        gives(7, 8, new String[] {three, four}, 4, 3, 7, 1, 255, 0, 9, 8, 7, 6);
        gives(7, 4, new String[] {Code.bytes(3, 5), Code.bytes(255)}, 4, 3, 3, 3, 5, 255);
        gives(7, 4, new String[] {none, three}, 4, 3, 3, 1, 255, 0);
        gives(7, 4, new String[] {three, none}, 4, 3, 3, 1, 255, 0);
        gives(7, 1, new String[] {none, none}, 4, 3, 0);
        gives(7, 8, new String[] {none, seven}, 4, 3, 7, 255, 2, 3, 4, 5, 6, 128);
        gives(7, 8, new String[] {seven, none}, 4, 3, 7, 255, 2, 3, 4, 5, 6, 128);
        fails(7, 9, four, four);
        fails(7, 15, seven, seven);
        gives(8, 1, new String[] {none}, 4, 0, 0);
        gives(8, 1, new String[] {seven}, 4, 0, 7);
        gives(9, 8, new String[] {seven, Code.number(0)}, 4, 0, 255);
        gives(9, 8, new String[] {seven, Code.number(6)}, 4, 0, 128);
        gives(9, 4, new String[] {three, Code.number(1)}, 4, 0, 255);
        fails(9, 8, seven, Code.number(7));
        fails(9, 8, seven, Code.number(-1));
        fails(9, 4, three, Code.number(MIN));
        fails(9, 1, none, Code.number(0));
        gives(11, 2, new String[] {seven, seven}, 4, 1, 1);
        gives(11, 2, new String[] {none, none}, 4, 1, 1);
        gives(11, 2, new String[] {Code.bytes(0), Code.bytes(0, 0)}, 4, 1, 0);
        gives(11, 2, new String[] {Code.bytes(1), Code.bytes(2)}, 4, 1, 0);
        gives(11, 2, new String[] {none, Code.bytes(0)}, 4, 1, 0);
    }

    private static void kinds() {
        int[] costs = {2, 2, 4, 4, 2, 2};
        String[] noNumbers = {Code.truth(true), Code.unit(), Code.bytes(1, 2), Code.operation(0),
            Code.delay(Code.number(1)), Code.lambda(Code.number(1))};
        for (int operation = 0; operation <= 5; operation++) {
            for (String other : noNumbers) {
                fails(operation, costs[operation], other, Code.number(1));
                fails(operation, costs[operation], Code.number(1), other);
            }
        }
        String two = Code.bytes(1, 2);
        fails(7, 3, two, Code.number(1));
        fails(7, 3, Code.unit(), two);
        fails(7, 1, Code.unit(), Code.number(1));
        fails(8, 1, Code.number(2));
        fails(9, 3, Code.number(0), two);
        fails(9, 5, two, two);
        fails(9, 1, Code.number(0), Code.number(0));
        fails(11, 2, two, Code.number(2));
        fails(11, 2, Code.number(2), two);
    }

    // Numbers that no constant can be come from operations.
    private static void wholeRange() {
        String least = term(0, numbers(MIN, MIN));
        String most = term(1, numbers(MAX, MIN));
        ended("most + 1", term(0, most, Code.number(1)), 14);
        ended("least - 1", term(1, least, Code.number(1)), 14);
        ended("least + -1", term(0, least, Code.number(-1)), 14);
        ended("0 - least", term(1, Code.number(0), least), 14);
        ended("least / -1", term(3, least, Code.number(-1)), 14);
        ended("least * -1", term(2, least, Code.number(-1)), 14);
        Check.tells("least / 1", Code.ran(term(3, least, Code.number(1)), 99), 4, 0, Integer.MIN_VALUE);
        Check.tells("most / -1", Code.ran(term(3, most, Code.number(-1)), 99), 4, 0, -2147483647);
        Check.tells("least below most", Code.ran(term(5, least, most), 99), 4, 1, 1);
        Check.tells("most below least", Code.ran(term(5, most, least), 99), 4, 1, 0);
        ended("most * most", term(2, most, most), 14);
        ended("least * least", term(2, least, least), 14);
    }

    // Nothing of an operation that was done is left for the next one, not even in its costs.
    private static void oneBehindAnother() {
        String choice = term(6, Code.truth(true), Code.bytes(1), Code.bytes(1, 2, 3));
        TermMachine x = Code.ran(term(7, choice, Code.bytes(7)), 1000);
        Check.stands("a choice, joined", x, 11, 24, 24 + 1 + 3, 0, 13);
        Check.tells("a choice, joined", x, 4, 3, 2, 1, 7);
        String failing = term(3, Code.number(1), Code.number(0));
        TermMachine y = Code.ran(failing, 1000);
        Code.read(y, Code.program(0, term(3, Code.number(6), Code.number(2))));
        y.begin(100);
        y.run(100);
        Check.tells("behind one that failed", y, 4, 0, 3);
    }

    private static void ended(String what, String term, int state) {
        Check.due(what, Code.ran(term, 1000).about(3), state);
    }
}
