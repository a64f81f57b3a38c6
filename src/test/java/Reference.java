import java.util.ArrayDeque;
import java.util.ArrayList;
import java.util.Arrays;
import java.util.List;

/**
 * The document once more, in the plainest Java: objects for terms and values, exceptions for what
 * is wrong, recursion for telling. FuzzTest holds the program against it.
 */
final class Reference {
    private static final int[] FORCES = {0, 0, 0, 0, 0, 0, 1, 0, 0, 0, 1, 0};
    private static final int[] ARGUMENTS = {2, 2, 2, 2, 2, 2, 3, 2, 1, 2, 2, 2};

    /** What is wrong with a text, by the place that is told. */
    private static final class Wrong extends RuntimeException {
        private static final long serialVersionUID = 1L;
        private final int place;

        Wrong(int place) {
            this.place = place;
        }
    }

    /** An end of the state, by its number; kept says that the latest frame has not gone. */
    private static final class End extends RuntimeException {
        private static final long serialVersionUID = 1L;
        private final int how;
        private final boolean kept;

        End(int how, boolean kept) {
            this.how = how;
            this.kept = kept;
        }
    }

    /** Thrown when 400 numbers are told. */
    private static final class Enough extends RuntimeException {
        private static final long serialVersionUID = 1L;
    }

    private record Term(int kind, int number, Object constant, Term first, Term second) {
    }

    private interface Value {
    }

    /** Long, Boolean, "unit" or a list of bytes. */
    private record Constant(Object holds) implements Value {
    }

    private record Closure(boolean lambda, Term term, List<Value> environment) implements Value {
    }

    private record Partial(int operation, int forces, List<Value> arguments) implements Value {
    }

    private record Frame(String kind, Term term, List<Value> environment, Value function) {
    }

    private final StringBuilder text = new StringBuilder();
    private String row = "";
    private int place = 0;
    private int count = 0;

    private Term program = null;
    private int terms = 0;
    private int version = 0;

    private boolean begun = false;
    private int budget = 0;
    private int ended = 0;
    private Term computing = null;
    private List<Value> environment = null;
    private Value returning = null;
    private ArrayDeque<Frame> frames = new ArrayDeque<>();
    private int steps = 0;
    private int costs = 0;
    private int made = 0;
    private List<Integer> result = new ArrayList<>();

    int text(int four, int n) {
        if (n < 1 || n > 4) {
            throw new IllegalArgumentException();
        }
        if (text.length() / 8 + n > 80) {
            throw new IllegalStateException();
        }
        String all = String.format("%32s", Integer.toBinaryString(four)).replace(' ', '0');
        text.append(all.substring(32 - 8 * n));
        return text.length() / 8;
    }

    int read() {
        row = text.toString();
        text.setLength(0);
        place = 0;
        count = 0;
        try {
            int newVersion = (int) natural();
            Term newProgram = term(0, 0);
            ending();
            version = newVersion;
            program = newProgram;
            terms = count;
            begun = false;
            return terms;
        } catch (Wrong wrong) {
            return -1 - wrong.place;
        }
    }

    private int bits(int many) {
        if (place + many > row.length()) {
            throw new Wrong(row.length());
        }
        place += many;
        return many == 0 ? 0 : Integer.parseInt(row.substring(place - many, place), 2);
    }

    private long natural() {
        long sum = 0;
        for (int shift = 0; ; shift += 7) {
            boolean more = bits(1) == 1;
            if (shift == 35) {
                throw new Wrong(place - 1);
            }
            sum += (long) bits(7) << shift;
            if (sum > Integer.MAX_VALUE) {
                throw new Wrong(place - 1);
            }
            if (!more) {
                return sum;
            }
        }
    }

    private Term term(int others, int lambdas) {
        int kind = bits(3);
        count++;
        if (count == 61 || others == 21) {
            throw new Wrong(place - 1);
        }
        switch (kind) {
            case 0:
                long k = natural();
                if (k == 0 || k > lambdas) {
                    throw new Wrong(place - 1);
                }
                return new Term(0, (int) k, null, null, null);
            case 1:
            case 5:
                return new Term(kind, 0, null, term(others + 1, lambdas), null);
            case 2:
                return new Term(kind, 0, null, term(others + 1, lambdas + 1), null);
            case 3:
                Term first = term(others + 1, lambdas);
                return new Term(kind, 0, null, first, term(others + 1, lambdas));
            case 4:
                return new Term(kind, 0, constant(), null, null);
            case 7:
                int operation = bits(4);
                if (operation > 11) {
                    throw new Wrong(place - 1);
                }
                return new Term(kind, operation, null, null, null);
            default:
                return new Term(kind, 0, null, null, null);
        }
    }

    private Object constant() {
        switch (bits(2)) {
            case 0:
                long z = natural();
                return z % 2 == 0 ? z / 2 : -(z + 1) / 2;
            case 1:
                return bits(1) == 1;
            case 2:
                return "unit";
            default:
                int many = bits(3);
                List<Integer> bytes = new ArrayList<>();
                for (int i = 0; i < many; i++) {
                    bytes.add(bits(8));
                }
                return bytes;
        }
    }

    private void ending() {
        while (true) {
            int bit = bits(1);
            boolean last = place % 8 == 0;
            if ((bit == 1) != last) {
                throw new Wrong(place - 1);
            }
            if (last) {
                break;
            }
        }
        if (place < row.length()) {
            throw new Wrong(place);
        }
    }

    boolean begin(int most) {
        if (most < 0 || most > 100000) {
            throw new IllegalArgumentException();
        }
        if (program == null) {
            throw new IllegalStateException();
        }
        begun = true;
        budget = most;
        ended = 0;
        computing = program;
        environment = List.of();
        returning = null;
        frames = new ArrayDeque<>();
        steps = 0;
        costs = 0;
        made = 0;
        result = new ArrayList<>();
        return true;
    }

    int run(int n) {
        if (n < 1 || n > 100) {
            throw new IllegalArgumentException();
        }
        if (!begun) {
            throw new IllegalStateException();
        }
        int done = 0;
        while (done < n && ended == 0) {
            step();
            done++;
        }
        return done;
    }

    private void step() {
        steps++;
        Frame latest = frames.peek();
        try {
            pay();
            if (computing != null) {
                compute();
            } else {
                giveBack();
            }
        } catch (End end) {
            ended = end.how;
            if (end.kept && frames.peek() != latest) {
                frames.push(latest);
            }
        }
    }

    private void pay() {
        int cost = 1;
        Frame latest = frames.peek();
        if (computing == null && latest != null && latest.kind.equals("function")
            && latest.function instanceof Partial p && p.forces == FORCES[p.operation]
            && p.arguments.size() + 1 == ARGUMENTS[p.operation]) {
            cost += operationCost(p.operation, with(p.arguments, returning));
        }
        if (costs + cost > budget) {
            throw new End(5, true);
        }
        costs += cost;
    }

    private static int operationCost(int operation, List<Value> arguments) {
        switch (operation) {
            case 2:
            case 3:
                return 4;
            case 6:
            case 8:
            case 10:
                return 1;
            case 7:
            case 9:
                int cost = 1;
                for (Value v : arguments) {
                    cost += bytesOf(v) == null ? 0 : bytesOf(v).size();
                }
                return cost;
            default:
                return 2;
        }
    }

    private void make(int many) {
        if (made + many > 600) {
            throw new End(6, true);
        }
        made += many;
    }

    private void push(Frame frame) {
        if (frames.size() == 200) {
            throw new End(6, true);
        }
        frames.push(frame);
    }

    private void returns(Value v) {
        computing = null;
        environment = null;
        returning = v;
    }

    private void computes(Term t, List<Value> e) {
        computing = t;
        environment = e;
        returning = null;
    }

    private void compute() {
        Term t = computing;
        switch (t.kind) {
            case 0:
                returns(environment.get(environment.size() - t.number));
                break;
            case 1:
            case 2:
                make(1);
                returns(new Closure(t.kind == 2, t.first, environment));
                break;
            case 3:
                push(new Frame("argument", t.second, environment, null));
                computes(t.first, environment);
                break;
            case 4:
                make(1);
                returns(new Constant(t.constant));
                break;
            case 5:
                push(new Frame("force", null, null, null));
                computes(t.first, environment);
                break;
            case 6:
                throw new End(2, true);
            default:
                make(1);
                returns(new Partial(t.number, 0, List.of()));
                break;
        }
    }

    private void giveBack() {
        Value v = returning;
        if (frames.isEmpty()) {
            try {
                tellValue(v);
            } catch (Enough enough) {
                // The others are cut off.
            }
            throw new End(1, true);
        }
        Frame f = frames.pop();
        if (f.kind.equals("argument")) {
            frames.push(new Frame("function", null, null, v));
            computes(f.term, f.environment);
        } else if (f.kind.equals("force")) {
            force(v);
        } else {
            apply(f.function, v);
        }
    }

    private void force(Value v) {
        if (v instanceof Closure c && !c.lambda) {
            computes(c.term, c.environment);
        } else if (v instanceof Partial p && p.forces < FORCES[p.operation]) {
            make(1);
            returns(new Partial(p.operation, p.forces + 1, p.arguments));
        } else {
            throw new End(3, false);
        }
    }

    private void apply(Value function, Value v) {
        if (function instanceof Closure c && c.lambda) {
            make(1);
            computes(c.term, with(c.environment, v));
        } else if (function instanceof Partial p && p.forces == FORCES[p.operation]) {
            List<Value> arguments = with(p.arguments, v);
            if (arguments.size() < ARGUMENTS[p.operation]) {
                make(1);
                returns(new Partial(p.operation, p.forces, arguments));
            } else {
                Value given = done(p.operation, arguments);
                make(given == null || p.operation == 6 || p.operation == 10 ? 1 : 2);
                if (given == null) {
                    throw new End(4, false);
                }
                returns(given);
            }
        } else {
            throw new End(3, false);
        }
    }

    private static List<Value> with(List<Value> all, Value one) {
        List<Value> more = new ArrayList<>(all);
        more.add(one);
        return more;
    }

    private static Long numberOf(Value v) {
        return v instanceof Constant c && c.holds instanceof Long n ? n : null;
    }

    private static List<?> bytesOf(Value v) {
        return v instanceof Constant c && c.holds instanceof List<?> b ? b : null;
    }

    /** What the operation gives, or null where it ends with 4. */
    private static Value done(int operation, List<Value> arguments) {
        Value a = arguments.get(0);
        if (operation == 6) {
            return a instanceof Constant c && c.holds instanceof Boolean b
                ? arguments.get(b ? 1 : 2) : null;
        }
        if (operation == 10) {
            return a instanceof Constant c && c.holds.equals("unit") ? arguments.get(1) : null;
        }
        if (operation == 8) {
            return bytesOf(a) == null ? null : new Constant((long) bytesOf(a).size());
        }
        Value b = arguments.get(1);
        if (operation == 9) {
            List<?> bytes = bytesOf(a);
            Long n = numberOf(b);
            boolean none = bytes == null || n == null || n < 0 || n >= bytes.size();
            return none ? null : new Constant((long) (Integer) bytes.get(n.intValue()));
        }
        if (operation == 7 || operation == 11) {
            return ofBytes(operation, bytesOf(a), bytesOf(b));
        }
        return ofNumbers(operation, numberOf(a), numberOf(b));
    }

    private static Value ofBytes(int operation, List<?> a, List<?> b) {
        if (a == null || b == null) {
            return null;
        }
        if (operation == 11) {
            return new Constant(a.equals(b));
        }
        List<Object> all = new ArrayList<>(a);
        all.addAll(b);
        return all.size() > 7 ? null : new Constant(all);
    }

    private static Value ofNumbers(int operation, Long a, Long b) {
        if (a == null || b == null || operation == 3 && b == 0) {
            return null;
        }
        long n;
        switch (operation) {
            case 0:
                n = a + b;
                break;
            case 1:
                n = a - b;
                break;
            case 2:
                n = a * b;
                break;
            case 3:
                n = Math.abs(a) / Math.abs(b) * (a < 0 == b < 0 ? 1 : -1);
                break;
            case 4:
                return new Constant(a.equals(b));
            default:
                return new Constant(a < b);
        }
        return n == (int) n ? new Constant(n) : null;
    }

    private void tell(int... numbers) {
        for (int n : numbers) {
            if (result.size() == 400) {
                throw new Enough();
            }
            result.add(n);
        }
    }

    private void tellValue(Value v) {
        if (v instanceof Constant c) {
            tellConstant(c.holds);
        } else if (v instanceof Closure c) {
            tell(c.lambda ? 2 : 1);
            tellTerm(c.term, c.environment, c.lambda ? 1 : 0);
        } else if (v instanceof Partial p) {
            int[] head = new int[p.arguments.size() + p.forces];
            Arrays.fill(head, 5);
            Arrays.fill(head, 0, p.arguments.size(), 3);
            tell(head);
            tell(7, p.operation);
            for (Value argument : p.arguments) {
                tellValue(argument);
            }
        }
    }

    private void tellTerm(Term t, List<Value> e, int bound) {
        if (t.kind == 0 && t.number > bound) {
            tellValue(e.get(e.size() - (t.number - bound)));
        } else if (t.kind == 0) {
            tell(0, t.number);
        } else if (t.kind == 4) {
            tellConstant(t.constant);
        } else {
            tell(t.kind);
            if (t.kind == 7) {
                tell(t.number);
            }
            if (t.first != null) {
                tellTerm(t.first, e, bound + (t.kind == 2 ? 1 : 0));
            }
            if (t.second != null) {
                tellTerm(t.second, e, bound);
            }
        }
    }

    private void tellConstant(Object holds) {
        tell(4);
        if (holds instanceof Long n) {
            tell(0, (int) (long) n);
        } else if (holds instanceof Boolean b) {
            tell(1, b ? 1 : 0);
        } else if (holds instanceof List<?> bytes) {
            tell(3, bytes.size());
            for (Object one : bytes) {
                tell((Integer) one);
            }
        } else {
            tell(2);
        }
    }

    int told(int i) {
        return begun && ended == 1 && i >= 0 && i < result.size() ? result.get(i) : -1;
    }

    int about(int what) {
        if (what >= 3 && what <= 8 && !begun) {
            return 0;
        }
        switch (what) {
            case 0:
                return text.length() / 8;
            case 1:
                return terms;
            case 2:
                return version;
            case 3:
                return ended > 0 ? 10 + ended : computing != null ? 1 : 2;
            case 4:
                return steps;
            case 5:
                return costs;
            case 6:
                return frames.size();
            case 7:
                return made;
            case 8:
                return ended == 1 ? result.size() : 0;
            default:
                return -1;
        }
    }
}
