import java.util.Random;

/**
 * All promises: random runs of calls, on the program and on the Reference, must have the same
 * answers. The seed is fixed, so that each run is the same.
 */
public final class FuzzTest {
    private static final int RUNS = 20000;
    private static final int CALLS_MOST = 512;
    private static final int NUMBERS_ASKED = 24;
    private static final int[] ENDS = new int[7];

    private final Random random;
    private final TermMachine x = new TermMachine();
    private final Reference y = new Reference();
    private final int run;
    // An object has 512 calls; each call of x is counted.
    private int calls = 0;

    private FuzzTest(int run) {
        this.run = run;
        this.random = new Random(20261115L * 31 + run);
    }

    public static void main(String[] args) {
        for (int run = 0; run < RUNS; run++) {
            new FuzzTest(run).goThrough();
        }
        for (int how = 1; how <= 6; how++) {
            Check.due("enough runs ended with " + how, ENDS[how] >= 1000 ? 1 : 0, 1);
        }
        Check.close("FuzzTest");
    }

    private boolean mayGoOn() {
        return calls < CALLS_MOST;
    }

    private void goThrough() {
        while (mayGoOn()) {
            text();
            same("read()", () -> x.read(), () -> y.read());
            int times = random.nextInt(3);
            for (int i = 0; i < times; i++) {
                work();
            }
            int[] odd = {-1, 0, 5, 101, 100001};
            int n = odd[random.nextInt(odd.length)];
            same("run " + n, () -> x.run(n), () -> y.run(n));
            same("begin " + n, () -> x.begin(n) ? 1 : 0, () -> y.begin(n) ? 1 : 0);
        }
    }

    // Up to 4 bytes a call, and other bytes above them.
    private void text() {
        String row = damaged(Code.program(random.nextInt(4) == 0 ? random.nextInt() & 0x7fffffff : 0, term()));
        String whole = row + "0".repeat((8 - row.length() % 8) % 8);
        int at = 0;
        while (at < whole.length()) {
            int n = Math.min(1 + random.nextInt(4), (whole.length() - at) / 8);
            long bits = Long.parseLong(whole.substring(at, at + 8 * n), 2);
            int four = (int) (n == 4 ? bits : bits | (long) random.nextInt() << (8 * n));
            same("text", () -> x.text(four, n), () -> y.text(four, n));
            at += 8 * n;
        }
    }

    private String damaged(String row) {
        StringBuilder bits = new StringBuilder(row);
        switch (random.nextInt(12)) {
            case 0:
                int at = random.nextInt(bits.length());
                bits.setCharAt(at, bits.charAt(at) == '0' ? '1' : '0');
                return bits.toString();
            case 1:
                return bits.substring(0, 8 * random.nextInt(bits.length() / 8 + 1));
            case 2:
                return bits + Code.bits(random.nextInt(256), 8);
            case 3:
                return Code.bits(random.nextLong(), 64) + Code.bits(random.nextLong(), 64);
            default:
                return row;
        }
    }

    private void work() {
        int budget = random.nextInt(3) == 0 ? random.nextInt(60) : random.nextInt(100001);
        same("begin", () -> x.begin(budget) ? 1 : 0, () -> y.begin(budget) ? 1 : 0);
        for (int i = 0; i < 40 && (i == 0 || y.about(3) < 10 && y.about(3) > 0); i++) {
            int n = random.nextInt(4) == 0 ? 1 + random.nextInt(100) : 100;
            same("run", () -> x.run(n), () -> y.run(n));
            if (random.nextInt(8) == 0) {
                compare();
            }
        }
        compare();
        if (y.about(3) > 10 && mayGoOn()) {
            ENDS[y.about(3) - 10]++;
        }
    }

    private void compare() {
        for (int what = -1; what <= 9; what++) {
            int about = what;
            same("about(" + what + ")", () -> x.about(about), () -> y.about(about));
        }
        int many = y.about(8);
        for (int i = 0; i < NUMBERS_ASKED; i++) {
            int at = many <= NUMBERS_ASKED - 2 ? i - 1 : random.nextInt(many + 2) - 1;
            same("told(" + at + ")", () -> x.told(at), () -> y.told(at));
            if (at > many) {
                return;
            }
        }
    }

    private void same(String what, Check.Call one, Check.Call other) {
        if (mayGoOn()) {
            calls++;
            Check.due("run " + run + ": " + what, answer(one), answer(other));
        }
    }

    private static long answer(Check.Call call) {
        try {
            return call.answer();
        } catch (IllegalArgumentException e) {
            return 1L << 40;
        } catch (IllegalStateException e) {
            return 1L << 41;
        }
    }

    private String term() {
        switch (random.nextInt(8)) {
            case 0:
                return looping();
            case 1:
                return any(0, 0, 18);
            case 2:
                return repeated();
            default:
                return any(0, 0, 7);
        }
    }

    // Self-application: what grows with each time round is left to chance.
    private String looping() {
        String again = Code.apply(Code.variable(1), Code.variable(1));
        String body = random.nextBoolean() ? again : around(again);
        String loop = Code.lambda(body);
        return Code.apply(loop, loop);
    }

    private String around(String term) {
        switch (random.nextInt(5)) {
            case 0:
                return Code.force(term);
            case 1:
                return Code.apply(Code.operation(random.nextInt(12)), term);
            case 2:
                return Code.apply(Code.lambda(any(2, 8, 3)), term);
            case 3:
                return Code.apply(Code.lambda(
                    Code.apply(Code.variable(2), Code.variable(2))), any(1, 8, 2));
            default:
                return Code.apply(term, any(1, 8, 2));
        }
    }

    // A function many times round, on a value: large and deep results.
    private String repeated() {
        String twice = Code.lambda(Code.lambda(Code.apply(Code.variable(2),
            Code.apply(Code.variable(2), Code.variable(1)))));
        String[] more = new String[random.nextInt(4)];
        java.util.Arrays.fill(more, twice);
        String step = Code.lambda(random.nextBoolean() ? Code.delay(any(1, 8, 3)) : any(1, 8, 4));
        return Code.apply(Code.apply(Code.apply(twice, more), step), any(0, 8, 2));
    }

    private String any(int lambdas, int others, int size) {
        if (size <= 0) {
            return leaf(lambdas);
        }
        switch (random.nextInt(12)) {
            case 0:
                return Code.delay(any(lambdas, others + 1, size - 1));
            case 1:
            case 2:
                return Code.lambda(any(lambdas + 1, others + 1, size - 1));
            case 3:
                return Code.force(any(lambdas, others + 1, size - 1));
            case 4:
                return Code.force(Code.delay(any(lambdas, others + 2, size - 2)));
            case 5:
            case 6:
                return operated(lambdas, others, size);
            case 7:
            case 8:
            case 9:
                return Code.apply(Code.lambda(any(lambdas + 1, others + 2, size - 2)),
                    any(lambdas, others + 1, size / 2));
            case 10:
                return Code.apply(any(lambdas, others + 1, size / 2), any(lambdas, others + 1, size / 2));
            default:
                return leaf(lambdas);
        }
    }

    private String operated(int lambdas, int others, int size) {
        int operation = random.nextInt(12);
        String head = Code.operation(operation);
        if (operation == 6 || operation == 10) {
            head = random.nextInt(12) == 0 ? head : Code.force(head);
        }
        int wanted = operation == 6 ? 3 : operation == 8 ? 1 : 2;
        int many = random.nextInt(5) == 0 ? random.nextInt(4) : wanted;
        String[] arguments = new String[many];
        for (int i = 0; i < many; i++) {
            arguments[i] = random.nextInt(4) == 0
                ? any(lambdas, others + 3, size / 3) : fitting(operation, i);
        }
        return Code.apply(head, arguments);
    }

    private String fitting(int operation, int i) {
        switch (operation) {
            case 6:
                return i == 0 ? Code.truth(random.nextBoolean()) : leaf(0);
            case 10:
                return i == 0 ? Code.unit() : leaf(0);
            case 7:
            case 8:
            case 11:
                return someBytes();
            case 9:
                return i == 0 ? someBytes() : Code.number(random.nextInt(9) - 1);
            default:
                return someNumber();
        }
    }

    private String someBytes() {
        int[] all = new int[random.nextInt(random.nextInt(3) == 0 ? 8 : 4)];
        for (int i = 0; i < all.length; i++) {
            all[i] = random.nextInt(3) == 0 ? random.nextInt(256) : 0;
        }
        return Code.bytes(all);
    }

    private String someNumber() {
        switch (random.nextInt(4)) {
            case 0:
                return Code.number(random.nextInt() >> 1);
            case 1:
                return Code.number(random.nextBoolean() ? (1 << 30) - 1 : -(1 << 30));
            default:
                return Code.number(random.nextInt(7) - 3);
        }
    }

    private String leaf(int lambdas) {
        if (lambdas > 0 && random.nextInt(5) < 3) {
            return Code.variable(random.nextInt(40) == 0 ? random.nextInt(lambdas + 2)
                : 1 + random.nextInt(lambdas));
        }
        switch (random.nextInt(8)) {
            case 0:
                return random.nextInt(6) == 0 ? Code.error() : Code.unit();
            case 1:
                return Code.truth(random.nextBoolean());
            case 2:
                return Code.unit();
            case 3:
                return someBytes();
            case 4:
                return Code.operation(random.nextInt(random.nextInt(30) == 0 ? 16 : 12));
            default:
                return someNumber();
        }
    }
}
