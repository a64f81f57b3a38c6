/** Terms that have made many values, or have many frames, when they come to what is to be tested. */
final class Filled {
    private Filled() {
    }

    /**
     * A term that, when x comes to be computed, has made so many values (from 39 on) and has no
     * frame: W W n counts down, W = s. n. if n is 0 then x else s s (n - 1).
     */
    static String behind(int values, String x) {
        int times = (values - 19) / 20;
        int rest = (values - 19) % 20;
        String n = Code.number(times);
        for (int i = 0; i < rest / 5; i++) {
            n = Code.apply(Code.operation(0), n, Code.number(0));
        }
        for (int i = 0; i < rest % 5; i++) {
            n = Code.force(Code.delay(n));
        }
        return countDown(n, x, 0);
    }

    /** A term that, when x comes to be computed, has so many frames (from 192 to 212) and 499 values. */
    static String under(int frames, String x) {
        return countDown(Code.number(24), Code.within(frames - 192, "101", x), 8);
    }

    static String countDown(String n, String x, int forces) {
        String again = Code.apply(Code.variable(2), Code.variable(2),
            Code.apply(Code.operation(1), Code.variable(1), Code.number(1)));
        String test = Code.apply(Code.operation(4), Code.variable(1), Code.number(0));
        String body = Code.force(Code.apply(Code.force(Code.operation(6)), test, Code.delay(x),
            Code.delay(Code.within(forces, "101", again))));
        String start = Code.apply(Code.variable(1), Code.variable(1), n);
        return Code.apply(Code.lambda(start), Code.lambda(Code.lambda(body)));
    }
}
