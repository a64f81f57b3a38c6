/**
 * A machine for terms without names: they are read from bits, checked to be closed, and worked out
 * step by step under a budget; the result is told as a term again.
 *
 * <p>All rows are made once, in the constructors, and used again by every call: no call makes an
 * object, but for the exceptions that it throws.
 */
public final class TermMachine {
    public static final int NONE = -1;

    private static final int TEXT_MOST = 80;
    private static final int TERMS_MOST = 60;
    private static final int OTHERS_MOST = 20;
    private static final int GROUPS_MOST = 5;
    private static final long NATURAL_MOST = 2147483647L;
    private static final long NUMBER_LEAST = -2147483648L;
    private static final long NUMBER_MOST = 2147483647L;
    private static final int BYTES_MOST = 7;
    private static final int ARGUMENTS_MOST = 3;
    private static final int FRAMES_MOST = 200;
    private static final int VALUES_MOST = 600;
    private static final int NUMBERS_MOST = 400;
    private static final int BUDGET_MOST = 100000;
    private static final int STEPS_MOST = 100;

    // The kinds of terms, as the three bits that begin a term say them.
    private static final int VARIABLE = 0;
    private static final int DELAY = 1;
    private static final int LAMBDA = 2;
    private static final int APPLY = 3;
    private static final int CONSTANT = 4;
    private static final int FORCE = 5;
    private static final int ERROR = 6;
    private static final int OPERATION = 7;

    // The kinds of values; the first four are those of constants, as their two bits say them.
    private static final int NUMBER = 0;
    private static final int TRUTH = 1;
    private static final int UNIT = 2;
    private static final int BYTES = 3;
    private static final int DELAYED = 4;
    private static final int FUNCTION = 5;
    private static final int PARTIAL = 6;
    // No value, but kept among them, because each one counts as a value made.
    private static final int LINK = 7;

    private static final int ANY = -1;

    private static final int SUM = 0;
    private static final int DIFFERENCE = 1;
    private static final int PRODUCT = 2;
    private static final int QUOTIENT = 3;
    private static final int EQUAL = 4;
    private static final int BELOW = 5;
    private static final int CHOICE = 6;
    private static final int JOIN = 7;
    private static final int LENGTH = 8;
    private static final int BYTE_AT = 9;
    private static final int SEQUENCE = 10;
    private static final int SAME_BYTES = 11;
    private static final int OPERATION_LAST = 11;

    // By operation: the forces and arguments it wants, and what doing it costs ahead of its bytes.
    private static final int[] FORCES = {0, 0, 0, 0, 0, 0, 1, 0, 0, 0, 1, 0};
    private static final int[] ARGUMENTS = {2, 2, 2, 2, 2, 2, 3, 2, 1, 2, 2, 2};
    private static final int[] COSTS = {2, 2, 4, 4, 2, 2, 1, 1, 1, 1, 1, 2};

    // By operation, ARGUMENTS_MOST each: the kinds of values that its arguments must have.
    private static final int[] WANTED = {
        NUMBER, NUMBER, ANY,
        NUMBER, NUMBER, ANY,
        NUMBER, NUMBER, ANY,
        NUMBER, NUMBER, ANY,
        NUMBER, NUMBER, ANY,
        NUMBER, NUMBER, ANY,
        TRUTH, ANY, ANY,
        BYTES, BYTES, ANY,
        BYTES, ANY, ANY,
        BYTES, NUMBER, ANY,
        UNIT, ANY, ANY,
        BYTES, BYTES, ANY,
    };

    private static final int FRAME_FORCE = 0;
    private static final int FRAME_ARGUMENT = 1;
    private static final int FRAME_FUNCTION = 2;

    // The states, as about(3) tells them; an ended one is ENDED and how.
    private static final int NOTHING = 0;
    private static final int COMPUTES = 1;
    private static final int RETURNS = 2;
    private static final int ENDED = 10;

    private static final int WITH_RESULT = 1;
    private static final int WITH_ERROR = 2;
    private static final int UNFIT = 3;
    private static final int FAILED = 4;
    private static final int OVER_BUDGET = 5;
    private static final int FULL = 6;

    private final Text input = new Text();
    private final Work work = new Work();
    private Program program = new Program();
    // A text is read into this one, so that a wrong text leaves the program as it was.
    private Program spare = new Program();

    public TermMachine() {
    }

    public int text(int four, int n) throws IllegalArgumentException, IllegalStateException {
        if (n < 1 || n > 4) {
            throw new IllegalArgumentException("n is not 1 .. 4");
        }
        if (input.length + n > TEXT_MOST) {
            throw new IllegalStateException("the text would be too long");
        }
        for (int i = n - 1; i >= 0; i--) {
            input.add(four >> (8 * i));
        }
        return input.length;
    }

    public int read() {
        spare.fill(input);
        input.length = 0;
        if (input.wrong != NONE) {
            return -1 - input.wrong;
        }
        Program former = program;
        program = spare;
        spare = former;
        work.forget();
        return program.count;
    }

    public boolean begin(int budget) throws IllegalArgumentException, IllegalStateException {
        if (budget < 0 || budget > BUDGET_MOST) {
            throw new IllegalArgumentException("the budget is not 0 .. 100000");
        }
        if (program.count == 0) {
            throw new IllegalStateException("there is no program");
        }
        work.start(budget);
        return true;
    }

    public int run(int n) throws IllegalArgumentException, IllegalStateException {
        if (n < 1 || n > STEPS_MOST) {
            throw new IllegalArgumentException("n is not 1 .. 100");
        }
        if (work.state == NOTHING) {
            throw new IllegalStateException("nothing was begun");
        }
        int made = 0;
        while (made < n && work.state < ENDED) {
            work.step(program);
            made++;
        }
        return made;
    }

    public int told(int i) {
        return work.teller.numberAt(i);
    }

    public int about(int what) {
        switch (what) {
            case 0:
                return input.length;
            case 1:
                return program.count;
            case 2:
                return program.version;
            case 3:
                return work.state;
            case 4:
                return work.steps;
            case 5:
                return work.costs;
            case 6:
                return work.frames.count;
            case 7:
                return work.store.count;
            case 8:
                return work.teller.count;
            default:
                return NONE;
        }
    }

    // Rows are read through these two where an index comes from elsewhere, because no call may
    // throw by itself: outside of the row there is NONE, or 0.
    private static int at(int[] row, int index) {
        return index >= 0 && index < row.length ? row[index] : NONE;
    }

    private static long longAt(long[] row, int index) {
        return index >= 0 && index < row.length ? row[index] : 0;
    }

    /** The text, and how far it has been read. Once something is wrong it gives no more bits. */
    private static final class Text {
        private final int[] bytes = new int[TEXT_MOST];
        private int length = 0;
        private int place = 0;
        // The place by which it is told what is wrong, or NONE.
        private int wrong = NONE;

        void add(int value) {
            if (length < TEXT_MOST) {
                bytes[length] = value & 255;
                length++;
            }
        }

        void rewind() {
            place = 0;
            wrong = NONE;
        }

        int bits() {
            return 8 * length;
        }

        int bitAt(int bit) {
            int index = bit >> 3;
            if (index < 0 || index >= length) {
                return 0;
            }
            return (bytes[index] >> (7 - (bit & 7))) & 1;
        }

        void refuse(int bit) {
            if (wrong == NONE) {
                wrong = bit;
            }
        }

        void refuseLatest() {
            refuse(place - 1);
        }

        int take(int bits) {
            int value = 0;
            for (int i = 0; i < bits && wrong == NONE; i++) {
                if (place >= bits()) {
                    refuse(bits());
                } else {
                    value = 2 * value + bitAt(place);
                    place++;
                }
            }
            return value;
        }

        int takeNatural() {
            long sum = 0;
            int more = 1;
            for (int group = 0; group < GROUPS_MOST && more == 1 && wrong == NONE; group++) {
                more = take(1);
                sum += (long) take(7) << (7 * group);
                if (sum > NATURAL_MOST) {
                    refuseLatest();
                }
            }
            if (more == 1) {
                refuse(place);
            }
            return wrong == NONE ? (int) sum : 0;
        }

        long takeBytes() {
            int many = take(3);
            long content = 0;
            for (int i = 0; i < many; i++) {
                content = (content << 8) | take(8);
            }
            return Packed.of(many, content);
        }

        void takeEnding() {
            if (place >= bits()) {
                refuse(bits());
            }
            int last = place | 7;
            for (int bit = place; bit < last; bit++) {
                if (bitAt(bit) == 1) {
                    refuse(bit);
                }
            }
            if (bitAt(last) == 0) {
                refuse(last);
            }
            if (last + 1 < bits()) {
                refuse(last + 1);
            }
        }
    }

    /**
     * Up to 7 bytes in one long: how many in its highest byte, the latest in its lowest, and 0
     * between, so that the same bytes are the same long.
     */
    private static final class Packed {
        private static final int SHIFT = 8 * BYTES_MOST;
        private static final long CONTENT = (1L << SHIFT) - 1;

        static long of(int many, long content) {
            return ((long) many << SHIFT) | content;
        }

        static int length(long packed) {
            return (int) (packed >>> SHIFT);
        }

        static int byteAt(long packed, int length, int n) {
            return (int) (packed >>> (8 * (length - 1 - n))) & 255;
        }

        static long joined(long one, long other) {
            int more = length(other);
            long content = ((one & CONTENT) << (8 * more)) | (other & CONTENT);
            return of(length(one) + more, content);
        }
    }

    /** The terms of a program, each ahead of those within it: the whole one is term 0. */
    private static final class Program {
        private final int[] kind = new int[TERMS_MOST];
        // The (first) term within; of a CONSTANT, the kind of its value.
        private final int[] first = new int[TERMS_MOST];
        private final int[] second = new int[TERMS_MOST];
        // A VARIABLE'S k, an OPERATION'S number, what a CONSTANT holds.
        private final long[] content = new long[TERMS_MOST];
        private int count = 0;
        private int version = 0;

        void fill(Text text) {
            text.rewind();
            count = 0;
            version = text.takeNatural();
            fillTerm(text, 0, 0);
            text.takeEnding();
        }

        private int add(int kindOfTerm) {
            if (count >= TERMS_MOST) {
                return NONE;
            }
            kind[count] = kindOfTerm;
            first[count] = NONE;
            second[count] = NONE;
            content[count] = 0;
            count++;
            return count - 1;
        }

        // Goes as deep as others, which the document's limit keeps low.
        private int fillTerm(Text text, int others, int lambdas) {
            int kindOfTerm = text.take(3);
            boolean refused = text.wrong != NONE || others > OTHERS_MOST;
            int term = refused ? NONE : add(kindOfTerm);
            if (term == NONE) {
                text.refuseLatest();
                return NONE;
            }
            switch (kindOfTerm) {
                case VARIABLE:
                    content[term] = takeVariable(text, lambdas);
                    break;
                case DELAY:
                case FORCE:
                    first[term] = fillTerm(text, others + 1, lambdas);
                    break;
                case LAMBDA:
                    first[term] = fillTerm(text, others + 1, lambdas + 1);
                    break;
                case APPLY:
                    first[term] = fillTerm(text, others + 1, lambdas);
                    second[term] = fillTerm(text, others + 1, lambdas);
                    break;
                case CONSTANT:
                    first[term] = text.take(2);
                    content[term] = takeConstant(text, first[term]);
                    break;
                case OPERATION:
                    content[term] = takeOperation(text);
                    break;
                default:
                    break;
            }
            return term;
        }

        private static int takeVariable(Text text, int lambdas) {
            int k = text.takeNatural();
            if (k < 1 || k > lambdas) {
                text.refuseLatest();
            }
            return k;
        }

        private static int takeOperation(Text text) {
            int operation = text.take(4);
            if (operation > OPERATION_LAST) {
                text.refuseLatest();
            }
            return operation;
        }

        private static long takeConstant(Text text, int kindOfConstant) {
            switch (kindOfConstant) {
                case NUMBER:
                    return signed(text.takeNatural());
                case TRUTH:
                    return text.take(1);
                case BYTES:
                    return text.takeBytes();
                default:
                    return 0;
            }
        }

        // -(z + 1) / 2 without z + 1, which the largest z has no room for.
        private static int signed(int z) {
            return (z & 1) == 0 ? z / 2 : -(z / 2) - 1;
        }
    }

    /**
     * All values made since the beginning. An environment is a chain of LINKs, the latest first; the
     * LINKs stand here too, so that count is the number of values made as the document counts them.
     */
    private static final class Store {
        private final int[] kind = new int[VALUES_MOST];
        // What a constant holds; the number of a PARTIAL operation.
        private final long[] content = new long[VALUES_MOST];
        // The term of a DELAYED or a FUNCTION, the latest argument of a PARTIAL, a LINK'S value.
        private final int[] left = new int[VALUES_MOST];
        // The environment of a DELAYED or a FUNCTION, the PARTIAL before, the LINK before.
        private final int[] right = new int[VALUES_MOST];
        // How many forces and arguments a PARTIAL has; the forces come first.
        private final int[] given = new int[VALUES_MOST];
        private int count = 0;

        boolean hasRoom(int more) {
            return count + more <= VALUES_MOST;
        }

        int add(int kindOfValue, long holds, int leftPart, int rightPart) {
            if (count >= VALUES_MOST) {
                return NONE;
            }
            kind[count] = kindOfValue;
            content[count] = holds;
            left[count] = leftPart;
            right[count] = rightPart;
            given[count] = 0;
            count++;
            return count - 1;
        }

        int addGrown(int partial, int argument) {
            int grown = add(PARTIAL, longAt(content, partial), argument, partial);
            if (grown != NONE) {
                given[grown] = at(given, partial) + 1;
            }
            return grown;
        }

        int operationOf(int partial) {
            return (int) longAt(content, partial);
        }

        boolean wantsForce(int value) {
            return at(kind, value) == PARTIAL
                && at(given, value) < at(FORCES, operationOf(value));
        }

        boolean wantsArgument(int value) {
            return at(kind, value) == PARTIAL
                && at(given, value) >= at(FORCES, operationOf(value));
        }

        boolean wantsOneArgument(int value) {
            int operation = operationOf(value);
            return wantsArgument(value)
                && at(given, value) + 1 == at(FORCES, operation) + at(ARGUMENTS, operation);
        }

        int valueAt(int environment, int k) {
            int link = environment;
            for (int i = 1; i < k && link != NONE; i++) {
                link = at(right, link);
            }
            return at(left, link);
        }
    }

    /** The pile of frames. */
    private static final class Frames {
        private final int[] kind = new int[FRAMES_MOST];
        // The second term of an ARGUMENT frame, the value of a FUNCTION frame.
        private final int[] part = new int[FRAMES_MOST];
        private final int[] environment = new int[FRAMES_MOST];
        private int count = 0;

        boolean hasRoom() {
            return count < FRAMES_MOST;
        }

        void add(int kindOfFrame, int partOfFrame, int environmentOfFrame) {
            if (count < FRAMES_MOST) {
                kind[count] = kindOfFrame;
                part[count] = partOfFrame;
                environment[count] = environmentOfFrame;
                count++;
            }
        }

        void drop() {
            if (count > 0) {
                count--;
            }
        }

        int latestKind() {
            return at(kind, count - 1);
        }

        int latestPart() {
            return at(part, count - 1);
        }

        int latestEnvironment() {
            return at(environment, count - 1);
        }
    }

    /**
     * An operation that has all it wants. What it gives is known before anything is made, because
     * the room that it takes depends on it.
     */
    private static final class Deed {
        private final int[] arguments = new int[ARGUMENTS_MOST];
        private int operation = 0;
        private int many = 0;
        private boolean failed = false;
        // One of the arguments, or NONE where a new constant is given: its kind and what it holds.
        private int chosen = NONE;
        private int kind = UNIT;
        private long content = 0;

        void prepare(Store store, int partial, int latest) {
            operation = store.operationOf(partial);
            many = at(ARGUMENTS, operation);
            int argument = latest;
            int from = partial;
            for (int i = many - 1; i >= 0 && i < ARGUMENTS_MOST; i--) {
                arguments[i] = argument;
                argument = at(store.left, from);
                from = at(store.right, from);
            }
        }

        int cost(Store store) {
            int cost = at(COSTS, operation);
            if (operation == JOIN || operation == BYTE_AT) {
                for (int i = 0; i < many; i++) {
                    int argument = at(arguments, i);
                    if (at(store.kind, argument) == BYTES) {
                        cost += Packed.length(longAt(store.content, argument));
                    }
                }
            }
            return cost;
        }

        int valuesMade() {
            return failed || chosen != NONE ? 1 : 2;
        }

        void perform(Store store) {
            failed = !fits(store);
            chosen = NONE;
            if (failed) {
                return;
            }
            long one = longAt(store.content, arguments[0]);
            long other = many > 1 ? longAt(store.content, arguments[1]) : 0;
            switch (operation) {
                case CHOICE:
                    chosen = one == 1 ? arguments[1] : arguments[2];
                    break;
                case SEQUENCE:
                    chosen = arguments[1];
                    break;
                case JOIN:
                case LENGTH:
                case BYTE_AT:
                case SAME_BYTES:
                    workBytes(one, other);
                    break;
                default:
                    workNumbers(one, other);
                    break;
            }
        }

        private boolean fits(Store store) {
            for (int i = 0; i < many; i++) {
                int wanted = at(WANTED, ARGUMENTS_MOST * operation + i);
                if (wanted != ANY && at(store.kind, at(arguments, i)) != wanted) {
                    return false;
                }
            }
            return true;
        }

        private void workNumbers(long one, long other) {
            switch (operation) {
                case SUM:
                    giveNumber(one + other);
                    break;
                case DIFFERENCE:
                    giveNumber(one - other);
                    break;
                case PRODUCT:
                    giveNumber(one * other);
                    break;
                case QUOTIENT:
                    if (other == 0) {
                        failed = true;
                    } else {
                        giveNumber(one / other);
                    }
                    break;
                case EQUAL:
                    giveTruth(one == other);
                    break;
                case BELOW:
                    giveTruth(one < other);
                    break;
                default:
                    break;
            }
        }

        private void workBytes(long one, long other) {
            int length = Packed.length(one);
            switch (operation) {
                case JOIN:
                    if (length + Packed.length(other) > BYTES_MOST) {
                        failed = true;
                    } else {
                        give(BYTES, Packed.joined(one, other));
                    }
                    break;
                case LENGTH:
                    give(NUMBER, length);
                    break;
                case BYTE_AT:
                    if (other < 0 || other >= length) {
                        failed = true;
                    } else {
                        give(NUMBER, Packed.byteAt(one, length, (int) other));
                    }
                    break;
                case SAME_BYTES:
                    giveTruth(one == other);
                    break;
                default:
                    break;
            }
        }

        private void give(int kindOfValue, long holds) {
            kind = kindOfValue;
            content = holds;
        }

        private void giveTruth(boolean truth) {
            give(TRUTH, truth ? 1 : 0);
        }

        private void giveNumber(long number) {
            if (number < NUMBER_LEAST || number > NUMBER_MOST) {
                failed = true;
            } else {
                give(NUMBER, number);
            }
        }
    }

    /** What was begun: its state, its values and frames, and what it has cost. */
    private static final class Work {
        private final Store store = new Store();
        private final Frames frames = new Frames();
        private final Deed deed = new Deed();
        private final Teller teller = new Teller();
        private int budget = 0;
        private int state = NOTHING;
        private int steps = 0;
        private int costs = 0;
        // What it computes, or the value that it returns.
        private int term = 0;
        private int environment = NONE;
        private int value = NONE;

        void forget() {
            state = NOTHING;
            steps = 0;
            costs = 0;
            store.count = 0;
            frames.count = 0;
            teller.count = 0;
        }

        void start(int most) {
            forget();
            budget = most;
            compute(0, NONE);
        }

        void step(Program program) {
            steps++;
            boolean operates = operates();
            int cost = 1;
            if (operates) {
                deed.prepare(store, frames.latestPart(), value);
                cost += deed.cost(store);
            }
            if (costs + cost > budget) {
                end(OVER_BUDGET);
                return;
            }
            costs += cost;
            if (state == COMPUTES) {
                stepComputing(program);
            } else if (operates) {
                stepOperating();
            } else if (frames.count > 0) {
                stepReturning();
            } else {
                teller.tell(program, store, value);
                end(WITH_RESULT);
            }
        }

        private boolean operates() {
            return state == RETURNS
                && frames.latestKind() == FRAME_FUNCTION
                && store.wantsOneArgument(frames.latestPart());
        }

        private void compute(int nextTerm, int nextEnvironment) {
            state = COMPUTES;
            term = nextTerm;
            environment = nextEnvironment;
        }

        private void giveBack(int nextValue) {
            state = RETURNS;
            value = nextValue;
        }

        private void end(int how) {
            state = ENDED + how;
        }

        private void stepComputing(Program program) {
            switch (at(program.kind, term)) {
                case VARIABLE:
                    giveBack(store.valueAt(environment, (int) longAt(program.content, term)));
                    break;
                case APPLY:
                    goInto(program, FRAME_ARGUMENT, at(program.second, term));
                    break;
                case FORCE:
                    goInto(program, FRAME_FORCE, NONE);
                    break;
                case ERROR:
                    end(WITH_ERROR);
                    break;
                default:
                    makeValue(program);
                    break;
            }
        }

        private void goInto(Program program, int kindOfFrame, int part) {
            if (!frames.hasRoom()) {
                end(FULL);
                return;
            }
            frames.add(kindOfFrame, part, environment);
            compute(at(program.first, term), environment);
        }

        private void makeValue(Program program) {
            if (!store.hasRoom(1)) {
                end(FULL);
                return;
            }
            int part = at(program.first, term);
            long content = longAt(program.content, term);
            switch (at(program.kind, term)) {
                case DELAY:
                    giveBack(store.add(DELAYED, 0, part, environment));
                    break;
                case LAMBDA:
                    giveBack(store.add(FUNCTION, 0, part, environment));
                    break;
                case CONSTANT:
                    giveBack(store.add(part, content, NONE, NONE));
                    break;
                default:
                    giveBack(store.add(PARTIAL, content, NONE, NONE));
                    break;
            }
        }

        private void stepReturning() {
            switch (frames.latestKind()) {
                case FRAME_FORCE:
                    forceValue();
                    break;
                case FRAME_ARGUMENT:
                    turnToArgument();
                    break;
                default:
                    applyFunction(frames.latestPart());
                    break;
            }
        }

        private void forceValue() {
            if (at(store.kind, value) == DELAYED) {
                frames.drop();
                compute(at(store.left, value), at(store.right, value));
            } else if (store.wantsForce(value)) {
                growPartial(value, NONE);
            } else {
                endUnfit();
            }
        }

        private void turnToArgument() {
            int nextTerm = frames.latestPart();
            int nextEnvironment = frames.latestEnvironment();
            frames.drop();
            frames.add(FRAME_FUNCTION, value, NONE);
            compute(nextTerm, nextEnvironment);
        }

        private void applyFunction(int function) {
            if (at(store.kind, function) == FUNCTION) {
                enterFunction(function);
            } else if (store.wantsArgument(function)) {
                growPartial(function, value);
            } else {
                endUnfit();
            }
        }

        private void enterFunction(int function) {
            if (!store.hasRoom(1)) {
                end(FULL);
                return;
            }
            int link = store.add(LINK, 0, value, at(store.right, function));
            frames.drop();
            compute(at(store.left, function), link);
        }

        private void growPartial(int partial, int argument) {
            if (!store.hasRoom(1)) {
                end(FULL);
                return;
            }
            frames.drop();
            giveBack(store.addGrown(partial, argument));
        }

        private void endUnfit() {
            frames.drop();
            end(UNFIT);
        }

        private void stepOperating() {
            deed.perform(store);
            if (!store.hasRoom(deed.valuesMade())) {
                end(FULL);
                return;
            }
            store.addGrown(frames.latestPart(), value);
            frames.drop();
            if (deed.failed) {
                end(FAILED);
            } else if (deed.chosen != NONE) {
                giveBack(deed.chosen);
            } else {
                giveBack(store.add(deed.kind, deed.content, NONE, NONE));
            }
        }
    }

    /**
     * Tells a value as a term. What is still to be told waits on a pile and not in calls that stand
     * open, because values may hold one another some hundred deep.
     */
    private static final class Teller {
        // Each thing that comes to the pile has a number told ahead of it, but for the first one.
        private static final int WAITING_MOST = NUMBERS_MOST + 8;
        private static final int A_VALUE = -1;

        private final int[] numbers = new int[NUMBERS_MOST];
        private int count = 0;
        // A value, or a term with its environment and the LAMBDAs that are told around it.
        private final int[] part = new int[WAITING_MOST];
        private final int[] environment = new int[WAITING_MOST];
        private final int[] lambdas = new int[WAITING_MOST];
        private int waiting = 0;

        int numberAt(int i) {
            return i < count ? at(numbers, i) : NONE;
        }

        void tell(Program program, Store store, int value) {
            count = 0;
            waiting = 0;
            putOff(value, NONE, A_VALUE);
            // Only a free VARIABLE tells no number itself, and the value behind it does.
            for (int i = 0; i < 2 * NUMBERS_MOST && waiting > 0 && count < NUMBERS_MOST; i++) {
                waiting--;
                if (at(lambdas, waiting) == A_VALUE) {
                    tellValue(store, at(part, waiting));
                } else {
                    tellTerm(program, store, waiting);
                }
            }
        }

        private void add(int number) {
            if (count < NUMBERS_MOST) {
                numbers[count] = number;
                count++;
            }
        }

        private void putOff(int partToTell, int environmentOfPart, int lambdasAround) {
            if (partToTell != NONE && waiting < WAITING_MOST) {
                part[waiting] = partToTell;
                environment[waiting] = environmentOfPart;
                lambdas[waiting] = lambdasAround;
                waiting++;
            }
        }

        private void tellValue(Store store, int value) {
            int kind = at(store.kind, value);
            switch (kind) {
                case DELAYED:
                    add(DELAY);
                    putOff(at(store.left, value), at(store.right, value), 0);
                    break;
                case FUNCTION:
                    add(LAMBDA);
                    putOff(at(store.left, value), at(store.right, value), 1);
                    break;
                case PARTIAL:
                    tellPartial(store, value);
                    break;
                default:
                    tellConstant(kind, longAt(store.content, value));
                    break;
            }
        }

        private void tellPartial(Store store, int partial) {
            int operation = store.operationOf(partial);
            int given = at(store.given, partial);
            int forces = Math.min(given, at(FORCES, operation));
            int arguments = given - forces;
            for (int i = 0; i < arguments; i++) {
                add(APPLY);
            }
            for (int i = 0; i < forces; i++) {
                add(FORCE);
            }
            add(OPERATION);
            add(operation);
            // From the latest to the first: the first one comes off the pile first.
            int from = partial;
            for (int i = 0; i < arguments; i++) {
                putOff(at(store.left, from), NONE, A_VALUE);
                from = at(store.right, from);
            }
        }

        private void tellTerm(Program program, Store store, int place) {
            int term = at(part, place);
            int around = at(environment, place);
            int lambdasAround = at(lambdas, place);
            int kind = at(program.kind, term);
            int first = at(program.first, term);
            long content = longAt(program.content, term);
            switch (kind) {
                case VARIABLE:
                    tellVariable(store, (int) content, around, lambdasAround);
                    break;
                case CONSTANT:
                    tellConstant(first, content);
                    break;
                case APPLY:
                    add(kind);
                    putOff(at(program.second, term), around, lambdasAround);
                    putOff(first, around, lambdasAround);
                    break;
                case LAMBDA:
                    add(kind);
                    putOff(first, around, lambdasAround + 1);
                    break;
                case DELAY:
                case FORCE:
                    add(kind);
                    putOff(first, around, lambdasAround);
                    break;
                case OPERATION:
                    add(kind);
                    add((int) content);
                    break;
                default:
                    add(kind);
                    break;
            }
        }

        private void tellVariable(Store store, int k, int around, int lambdasAround) {
            if (k > lambdasAround) {
                putOff(store.valueAt(around, k - lambdasAround), NONE, A_VALUE);
            } else {
                add(VARIABLE);
                add(k);
            }
        }

        private void tellConstant(int kind, long content) {
            add(CONSTANT);
            add(kind);
            if (kind == NUMBER || kind == TRUTH) {
                add((int) content);
            } else if (kind == BYTES) {
                int length = Packed.length(content);
                add(length);
                for (int i = 0; i < length; i++) {
                    add(Packed.byteAt(content, length, i));
                }
            }
        }
    }
}
