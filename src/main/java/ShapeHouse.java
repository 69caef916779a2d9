/**
 * A house of shapes: it counts the things of a grammar, tells each by its number
 * and finds the number of a thing that is written. README.md tells how to use it.
 */
public final class ShapeHouse {
    public static final long BAD = -2000000001L, NO = -2000000002L, FULL = -2000000003L, MANY = -2000000004L, NONE = -2000000005L, LIMIT = 10000000000000000L;

    private static final int SHAPES = 16;
    private static final int TOP_SIZE = 24;
    private static final int SIZES = TOP_SIZE + 1;
    /** The pairs of a SIZE and one that is not above it. */
    private static final int SIZE_PAIRS = SIZES * (SIZES + 1) / 2;
    private static final int ROOM = 300;
    private static final int KEPT = 8;
    private static final int NOBODY = -1;

    private static final int ATOM = 0;
    private static final int EMPTY = 1;
    private static final int BOTH = 2;
    private static final int EITHER = 3;
    private static final int ROW = 4;
    private static final int SET = 5;
    private static final int APART = 6;
    private static final int CUT = 7;
    private static final int ARRANGED = 8;

    /** The byte that a THING of a KIND begins with; 0 where the SHAPE or the THING tells it. */
    private static final char[] OPENER = {0, '.', '(', 0, '[', '{', '<', '!', '='};
    /** The byte that a THING of a KIND ends with, if it has one of its own. */
    private static final char[] CLOSER = {0, 0, ')', 0, ']', '}', '>', 0, 0};

    private final Grammar grammar;
    private final History history;
    private final Inspector inspector;
    private final Tally tally;
    private final Teller teller;
    private final Reader reader;
    private final Ranker ranker;
    private final Bytes tape;
    private final Bytes told;
    private boolean sound;
    private boolean anyRead;
    private int lastFault;
    private int lastSize;
    private int lastBytes;

    public ShapeHouse() {
        grammar = new Grammar();
        history = new History(grammar);
        inspector = new Inspector(grammar);
        tally = new Tally(grammar, inspector);
        teller = new Teller(grammar, tally);
        tape = new Bytes();
        told = new Bytes();
        reader = new Reader(grammar, tape);
        ranker = new Ranker(grammar, tally, reader, tape);
    }

    // ---- shapes

    public long shape(int kind, int a, int b) {
        if (!fits(kind, a, b)) {
            return BAD;
        }
        if (grammar.size() >= SHAPES) {
            return FULL;
        }
        int number = grammar.size();
        history.keep(number, NOBODY, 0, 0);
        grammar.add(kind, a, b);
        sound = false;
        return number;
    }

    public long put(int shape, int kind, int a, int b) {
        if (!grammar.has(shape) || !fits(kind, a, b)) {
            return BAD;
        }
        history.keep(shape, grammar.kind(shape), grammar.a(shape), grammar.b(shape));
        grammar.change(shape, kind, a, b);
        sound = false;
        return 0;
    }

    public long undo() {
        if (history.size() == 0) {
            return NO;
        }
        history.takeBack();
        sound = false;
        return history.size();
    }

    public long about(int shape, int what) {
        if (!grammar.has(shape)) {
            return BAD;
        }
        switch (what) {
            case 0:
                return grammar.kind(shape);
            case 1:
                return grammar.a(shape);
            case 2:
                return grammar.b(shape);
            default:
                return BAD;
        }
    }

    public long ready() {
        int fault = inspector.inspect();
        if (fault != 0) {
            return fault;
        }
        // Tables of a grammar that is known to be READY are still those of that grammar.
        if (!sound) {
            tally.fill();
            sound = true;
        }
        return 0;
    }

    // ---- counting

    public long count(int shape, int size) {
        if (!grammar.has(shape) || !isSize(size)) {
            return BAD;
        }
        return sound ? orMany(tally.of(shape, size)) : NO;
    }

    public long upTo(int shape, int size) {
        if (!grammar.has(shape) || !isSize(size)) {
            return BAD;
        }
        if (!sound) {
            return NO;
        }
        long sum = 0;
        for (int s = 0; s <= size; s++) {
            sum = Sums.plus(sum, tally.of(shape, s));
        }
        return orMany(sum);
    }

    public long parts(int shape, int other, int size) {
        if (!grammar.has(shape) || !grammar.has(other) || !isSize(size)) {
            return BAD;
        }
        if (!sound) {
            return NO;
        }
        for (int s = 0; s <= size; s++) {
            if (tally.of(shape, s) != tally.of(other, s)) {
                return s;
            }
        }
        return NONE;
    }

    public long thing(int shape, int size, long number) {
        if (!grammar.has(shape) || !isSize(size) || number < 0 || number >= LIMIT) {
            return BAD;
        }
        if (!sound) {
            return NO;
        }
        if (number >= tally.of(shape, size)) {
            return NONE;
        }
        if (!teller.tell(shape, size, number)) {
            return FULL;
        }
        told.copy(teller.draft());
        return told.length();
    }

    // ---- reading

    public long feed(int a, int b, int c, int d, int e) {
        if (tape.length() + 20 > ROOM) {
            return FULL;
        }
        tape.addFour(a);
        tape.addFour(b);
        tape.addFour(c);
        tape.addFour(d);
        tape.addFour(e);
        return tape.length();
    }

    public long trim(int n) {
        if (n < 0 || n > tape.length()) {
            return BAD;
        }
        tape.shorten(n);
        return n;
    }

    public long again() {
        tape.copy(told);
        return tape.length();
    }

    public long read(int shape) {
        long answer = grammar.has(shape) ? NO : BAD;
        if (sound && grammar.has(shape)) {
            reader.scan(shape);
            answer = judge();
        }
        tape.shorten(0);
        return answer;
    }

    public long found(int what) {
        if (what < 0 || what > 2) {
            return BAD;
        }
        if (!anyRead) {
            return NONE;
        }
        if (what == 0) {
            return lastFault;
        }
        if (what == 2) {
            return lastBytes;
        }
        return lastFault == 0 || lastFault == 3 ? lastSize : NONE;
    }

    public long out(int i) {
        return i >= 0 && i < told.length() ? told.at(i) : NONE;
    }

    public long state(int what) {
        switch (what) {
            case 0:
                return grammar.size();
            case 1:
                return tape.length();
            case 2:
                return told.length();
            case 3:
                return history.size();
            case 4:
                return sound ? 1 : 0;
            default:
                return BAD;
        }
    }

    /** Answers for what the reader has scanned, and keeps what found() tells of it. */
    private long judge() {
        anyRead = true;
        lastBytes = tape.length();
        lastFault = reader.fault();
        lastSize = reader.wholeSize();
        if (lastFault != 0) {
            return -100 - reader.faultPlace();
        }
        ranker.rank();
        // A part of a SET that is MANY hides what is alike, so it is told first.
        if (ranker.hasManyPart()) {
            return MANY;
        }
        if (ranker.hasTwin()) {
            lastFault = 3;
            return -100 - ranker.twinPlace();
        }
        return orMany(ranker.wholeNumber());
    }

    private static boolean isSize(int size) {
        return size >= 0 && size <= TOP_SIZE;
    }

    private static boolean isPart(int shape) {
        return shape >= 0 && shape < SHAPES;
    }

    private static long orMany(long number) {
        return number >= LIMIT ? MANY : number;
    }

    private static boolean fits(int kind, int a, int b) {
        switch (kind) {
            case ATOM:
                return a >= 1 && a <= 9 && b >= 0 && b <= 25;
            case EMPTY:
                return a == 0 && b == 0;
            case BOTH:
            case EITHER:
                return isPart(a) && isPart(b);
            case ROW:
            case SET:
            case APART:
                return isPart(a) && b == 0;
            case CUT:
                return isPart(a) && b >= 0 && (b & 31) <= TOP_SIZE && (b >> 5) <= (b & 31);
            case ARRANGED:
                return a >= 1 && a <= 8 && b == 0;
            default:
                return false;
        }
    }

    /** Rows that are looked at without harm wherever the index points. */
    private static final class Rows {
        static int at(int[] row, int i) {
            return i >= 0 && i < row.length ? row[i] : 0;
        }

        static long at(long[] row, int i) {
            return i >= 0 && i < row.length ? row[i] : 0;
        }

        static int at(char[] row, int i) {
            return i >= 0 && i < row.length ? row[i] : 0;
        }

        static void set(int[] row, int i, int value) {
            if (i >= 0 && i < row.length) {
                row[i] = value;
            }
        }

        static void set(long[] row, int i, long value) {
            if (i >= 0 && i < row.length) {
                row[i] = value;
            }
        }
    }

    /**
     * Arithmetic on 0 .. LIMIT in which LIMIT stands for all that is not below it. As
     * nothing negative comes in, stopping at LIMIT early gives what stopping late would.
     */
    private static final class Sums {
        static long plus(long x, long y) {
            return Math.min(LIMIT, x + y);
        }

        static long times(long x, long y) {
            if (x <= 0 || y <= 0) {
                return 0;
            }
            return x > LIMIT / y ? LIMIT : x * y;
        }

        /** How many ways there are to choose k (24 at most) of top things. */
        static long choose(long top, int k) {
            if (k <= 0) {
                return k == 0 ? 1 : 0;
            }
            if (top < k || k > TOP_SIZE) {
                return 0;
            }
            long ways = 1;
            // The ways to choose i of (top - k + i) only grow with i, so LIMIT is final.
            for (int i = 1; i <= k; i++) {
                long factor = top - k + i;
                if (factor <= 0 || ways > LIMIT * i / factor) {
                    return LIMIT;
                }
                ways = ways * factor / i;
            }
            return Math.min(LIMIT, ways);
        }

        static long orders(int letters) {
            long product = 1;
            for (int i = 2; i <= letters && i <= 8; i++) {
                product *= i;
            }
            return product;
        }
    }

    /** Bytes, 300 at most, as the tape and OUT have them. */
    private static final class Bytes {
        private final int[] cells = new int[ROOM];
        private int used;

        int length() {
            return used;
        }

        int at(int i) {
            return i < used ? Rows.at(cells, i) : 0;
        }

        boolean add(int sign) {
            if (used < 0 || used >= ROOM) {
                return false;
            }
            cells[used] = sign & 255;
            used++;
            return true;
        }

        void addFour(int signs) {
            add(signs >>> 24);
            add(signs >>> 16);
            add(signs >>> 8);
            add(signs);
        }

        void shorten(int length) {
            if (length >= 0 && length < used) {
                used = length;
            }
        }

        void copy(Bytes other) {
            used = 0;
            for (int i = 0; i < other.used; i++) {
                add(other.at(i));
            }
        }
    }

    /** The SHAPES as they stand. */
    private static final class Grammar {
        private final int[] kinds = new int[SHAPES];
        private final int[] firsts = new int[SHAPES];
        private final int[] seconds = new int[SHAPES];
        private int used;

        int size() {
            return used;
        }

        boolean has(int shape) {
            return shape >= 0 && shape < used;
        }

        int kind(int shape) {
            return shape >= 0 && shape < SHAPES ? kinds[shape] : 0;
        }

        int a(int shape) {
            return shape >= 0 && shape < SHAPES ? firsts[shape] : 0;
        }

        int b(int shape) {
            return shape >= 0 && shape < SHAPES ? seconds[shape] : 0;
        }

        /** The least SIZE that a CUT leaves. */
        int low(int shape) {
            return b(shape) >> 5;
        }

        /** The greatest SIZE that a CUT leaves. */
        int high(int shape) {
            return b(shape) & 31;
        }

        boolean isBag(int shape) {
            int kind = kind(shape);
            return kind == SET || kind == APART;
        }

        void add(int kind, int a, int b) {
            if (used < SHAPES) {
                used++;
                change(used - 1, kind, a, b);
            }
        }

        void change(int shape, int kind, int a, int b) {
            Rows.set(kinds, shape, kind);
            Rows.set(firsts, shape, a);
            Rows.set(seconds, shape, b);
        }

        void dropLast() {
            if (used > 0) {
                used--;
            }
        }
    }

    /** The latest changes, each as what stood there ahead of it (KIND NOBODY: no SHAPE). */
    private static final class History {
        private final Grammar grammar;
        private final int[] shapes = new int[KEPT];
        private final int[] kinds = new int[KEPT];
        private final int[] firsts = new int[KEPT];
        private final int[] seconds = new int[KEPT];
        private int used;

        History(Grammar grammar) {
            this.grammar = grammar;
        }

        int size() {
            return used;
        }

        void keep(int shape, int kind, int a, int b) {
            if (used >= KEPT) {
                forgetOldest();
            }
            Rows.set(shapes, used, shape);
            Rows.set(kinds, used, kind);
            Rows.set(firsts, used, a);
            Rows.set(seconds, used, b);
            used++;
        }

        void takeBack() {
            if (used <= 0) {
                return;
            }
            used--;
            int kind = Rows.at(kinds, used);
            if (kind == NOBODY) {
                grammar.dropLast();
            } else {
                grammar.change(Rows.at(shapes, used), kind, Rows.at(firsts, used), Rows.at(seconds, used));
            }
        }

        private void forgetOldest() {
            for (int i = 1; i < KEPT; i++) {
                shapes[i - 1] = shapes[i];
                kinds[i - 1] = kinds[i];
                firsts[i - 1] = firsts[i];
                seconds[i - 1] = seconds[i];
            }
            used = KEPT - 1;
        }
    }

    /** Finds the FAULTS of a grammar. Sets of SHAPES are held as bits. */
    private static final class Inspector {
        private final Grammar grammar;
        private final int[] needs = new int[SHAPES];
        private int empties;

        Inspector(Grammar grammar) {
            this.grammar = grammar;
        }

        /** 0, or 16 times the FAULT and the least SHAPE that has it. */
        int inspect() {
            int size = grammar.size();
            for (int x = 0; x < size; x++) {
                if (lacksPart(x)) {
                    return 16 + x;
                }
            }
            findEmpties();
            for (int x = 0; x < size; x++) {
                if (repeatsEmpty(x)) {
                    return 32 + x;
                }
            }
            findNeeds();
            for (int x = 0; x < size; x++) {
                if (isIn(Rows.at(needs, x), x)) {
                    return 48 + x;
                }
            }
            return 0;
        }

        /** In a grammar without RINGS a SHAPE needs more others than each that it needs. */
        int needCount(int shape) {
            return Integer.bitCount(Rows.at(needs, shape));
        }

        private static boolean isIn(int bits, int shape) {
            return shape >= 0 && shape < SHAPES && (bits >> shape & 1) != 0;
        }

        private boolean lacksPart(int shape) {
            switch (grammar.kind(shape)) {
                case BOTH:
                case EITHER:
                    return !grammar.has(grammar.a(shape)) || !grammar.has(grammar.b(shape));
                case ROW:
                case SET:
                case APART:
                case CUT:
                    return !grammar.has(grammar.a(shape));
                default:
                    return false;
            }
        }

        private void findEmpties() {
            empties = 0;
            // Each round but the last finds one more, so as many rounds as SHAPES do.
            for (int round = 0; round < SHAPES; round++) {
                for (int x = 0; x < grammar.size(); x++) {
                    if (canBeEmpty(x)) {
                        empties |= 1 << x;
                    }
                }
            }
        }

        private boolean canBeEmpty(int shape) {
            boolean a = isIn(empties, grammar.a(shape));
            boolean b = isIn(empties, grammar.b(shape));
            switch (grammar.kind(shape)) {
                case EMPTY:
                case ROW:
                case SET:
                case APART:
                    return true;
                case BOTH:
                    return a && b;
                case EITHER:
                    return a || b;
                case CUT:
                    return grammar.low(shape) == 0 && a;
                default:
                    return false;
            }
        }

        private boolean repeatsEmpty(int shape) {
            boolean repeats = grammar.kind(shape) == ROW || grammar.isBag(shape);
            return repeats && isIn(empties, grammar.a(shape));
        }

        private void findNeeds() {
            for (int x = 0; x < SHAPES; x++) {
                needs[x] = grammar.has(x) ? directNeeds(x) : 0;
            }
            for (int via = 0; via < SHAPES; via++) {
                for (int x = 0; x < SHAPES; x++) {
                    if (isIn(needs[x], via)) {
                        needs[x] |= needs[via];
                    }
                }
            }
        }

        private int directNeeds(int shape) {
            int a = grammar.a(shape);
            int b = grammar.b(shape);
            switch (grammar.kind(shape)) {
                case BOTH:
                    return (isIn(empties, b) ? 1 << a : 0) | (isIn(empties, a) ? 1 << b : 0);
                case EITHER:
                    return 1 << a | 1 << b;
                case ROW:
                case SET:
                case APART:
                case CUT:
                    return 1 << a;
                default:
                    return 0;
            }
        }
    }

    /** How many THINGS there are, and how many of them come ahead of others. */
    private static final class Tally {
        private final Grammar grammar;
        private final Inspector inspector;
        private final long[] counts = new long[SHAPES * SIZES];
        /** Of a SET or APART, a SIZE and the greatest SIZE that its THINGS may have. */
        private final long[] bags = new long[SHAPES * SIZE_PAIRS];

        Tally(Grammar grammar, Inspector inspector) {
            this.grammar = grammar;
            this.inspector = inspector;
        }

        /** For a grammar without FAULTS that the inspector has just seen. */
        void fill() {
            for (int i = 0; i < counts.length; i++) {
                counts[i] = 0;
            }
            for (int size = 0; size <= TOP_SIZE; size++) {
                for (int needed = 0; needed < SHAPES; needed++) {
                    for (int x = 0; x < grammar.size(); x++) {
                        if (inspector.needCount(x) == needed) {
                            Rows.set(counts, x * SIZES + size, reckon(x, size));
                        }
                    }
                }
            }
        }

        long of(int shape, int size) {
            if (shape < 0 || shape >= SHAPES || size < 0 || size > TOP_SIZE) {
                return 0;
            }
            return counts[shape * SIZES + size];
        }

        /** The SHAPE of what stands behind the first THING of a BOTH or a ROW. */
        int tail(int shape) {
            return grammar.kind(shape) == BOTH ? grammar.b(shape) : shape;
        }

        /** THINGS of the first SHAPE, of SIZE head, each with one of the tail; SIZE together. */
        long led(int first, int tail, int size, int head) {
            return Sums.times(of(first, head), of(tail, size - head));
        }

        /** BOTHS or ROWS of a SIZE whose first THING comes ahead of the one told. */
        long ledBelow(int shape, int size, int head, long number) {
            int first = grammar.a(shape);
            int tail = tail(shape);
            long sum = Sums.times(number, of(tail, size - head));
            for (int h = 0; h < head && h <= TOP_SIZE; h++) {
                sum = Sums.plus(sum, led(first, tail, size, h));
            }
            return sum;
        }

        /** SETS or APARTS of a SIZE whose THINGS are all of SIZE top or below. */
        long bagsUpTo(int shape, int size, int top) {
            if (!isSize(size) || !isSize(top)) {
                return 0;
            }
            return Rows.at(bags, bagRow(shape, size) + Math.min(top, size));
        }

        /** SETS or APARTS of a SIZE whose THINGS all come ahead of the one told. */
        long bagsBelow(int shape, int size, int head, long number) {
            if (head < 1) {
                return 0;
            }
            int alike = grammar.kind(shape) == SET ? 1 : 0;
            long sum = 0;
            for (int k = 0; k * head <= size && k <= TOP_SIZE; k++) {
                long smaller = bagsUpTo(shape, size - k * head, head - 1);
                long ways = Sums.choose(number + alike * (k - 1), k);
                sum = Sums.plus(sum, Sums.times(ways, smaller));
            }
            return sum;
        }

        private static int bagRow(int shape, int size) {
            return shape * SIZE_PAIRS + size * (size + 1) / 2;
        }

        private long reckon(int shape, int size) {
            int a = grammar.a(shape);
            switch (grammar.kind(shape)) {
                case ATOM:
                    return size == a ? 1 : 0;
                case EMPTY:
                    return size == 0 ? 1 : 0;
                case BOTH:
                    return ledBelow(shape, size, size + 1, 0);
                case EITHER:
                    return Sums.plus(of(a, size), of(grammar.b(shape), size));
                case ROW:
                    return size == 0 ? 1 : ledBelow(shape, size, size + 1, 0);
                case SET:
                case APART:
                    fillBags(shape, size);
                    return bagsUpTo(shape, size, TOP_SIZE);
                case CUT:
                    return size >= grammar.low(shape) && size <= grammar.high(shape) ? of(a, size) : 0;
                case ARRANGED:
                    return size == a ? Sums.orders(a) : 0;
                default:
                    return 0;
            }
        }

        private void fillBags(int shape, int size) {
            int row = bagRow(shape, size);
            Rows.set(bags, row, size == 0 ? 1 : 0);
            for (int top = 1; top <= size; top++) {
                Rows.set(bags, row + top, bagsBelow(shape, size, top, of(grammar.a(shape), top)));
            }
        }
    }

    /**
     * Writes the THING of a NUMBER. What is still to be written waits in a stack of works,
     * as things may stand deeper within things than calls may stand open.
     */
    private static final class Teller {
        /** A byte; a THING; what is still to come of a ROW, SET or APART. */
        private static final int SIGN = 0, WHOLE = 1, REST = 2;
        /** Each THING that is begun leaves two works at most, and writes a byte. */
        private static final int WORKS = 2 * ROOM + 8;
        private static final int STEPS = 10 * ROOM;

        private final Grammar grammar;
        private final Tally tally;
        private final Bytes draft = new Bytes();
        private final int[] works = new int[WORKS];
        private final int[] shapes = new int[WORKS];
        private final int[] sizes = new int[WORKS];
        private final long[] numbers = new long[WORKS];
        private int height;
        private int headSize;
        private long headNumber;
        private long restNumber;

        Teller(Grammar grammar, Tally tally) {
            this.grammar = grammar;
            this.tally = tally;
        }

        Bytes draft() {
            return draft;
        }

        /** Whether the THING, which there is, has room in the draft. */
        boolean tell(int shape, int size, long number) {
            draft.shorten(0);
            height = 0;
            push(WHOLE, shape, size, number);
            for (int step = 0; height > 0 && step < STEPS; step++) {
                if (!work()) {
                    return false;
                }
            }
            return height == 0;
        }

        private void push(int work, int shape, int size, long number) {
            if (height >= 0 && height < WORKS) {
                works[height] = work;
                shapes[height] = shape;
                sizes[height] = size;
                numbers[height] = number;
                height++;
            }
        }

        private boolean work() {
            height--;
            int shape = Rows.at(shapes, height);
            int size = Rows.at(sizes, height);
            long number = Rows.at(numbers, height);
            switch (Rows.at(works, height)) {
                case WHOLE:
                    return workWhole(shape, size, number);
                case REST:
                    return workRest(shape, size, number);
                default:
                    return draft.add(shape);
            }
        }

        private boolean workWhole(int shape, int size, long number) {
            int kind = grammar.kind(shape);
            int a = grammar.a(shape);
            switch (kind) {
                case ATOM:
                    return draft.add('a' + grammar.b(shape));
                case BOTH:
                    splitLed(shape, size, number);
                    push(SIGN, ')', 0, 0);
                    push(WHOLE, grammar.b(shape), size - headSize, restNumber);
                    push(WHOLE, a, headSize, headNumber);
                    break;
                case EITHER:
                    return workEither(shape, size, number);
                case ROW:
                case SET:
                case APART:
                    push(REST, shape, size, number);
                    break;
                case CUT:
                    push(WHOLE, a, size, number);
                    break;
                case ARRANGED:
                    return draft.add('=') && addLetters(a, number);
                default:
                    break;
            }
            return draft.add(Rows.at(OPENER, kind));
        }

        private boolean workEither(int shape, int size, long number) {
            long ofFirst = tally.of(grammar.a(shape), size);
            if (number < ofFirst) {
                push(WHOLE, grammar.a(shape), size, number);
                return draft.add('1');
            }
            push(WHOLE, grammar.b(shape), size, number - ofFirst);
            return draft.add('2');
        }

        private boolean workRest(int shape, int size, long number) {
            if (size <= 0) {
                return draft.add(Rows.at(CLOSER, grammar.kind(shape)));
            }
            if (grammar.isBag(shape)) {
                splitBag(shape, size, number);
            } else {
                splitLed(shape, size, number);
            }
            push(REST, shape, size - headSize, restNumber);
            push(WHOLE, grammar.a(shape), headSize, headNumber);
            return true;
        }

        /** The first THING of a BOTH or ROW, and the NUMBER of what stands behind it. */
        private void splitLed(int shape, int size, long number) {
            int first = grammar.a(shape);
            int tail = tally.tail(shape);
            long left = number;
            int head = 0;
            while (head < size && left >= tally.led(first, tail, size, head)) {
                left -= tally.led(first, tail, size, head);
                head++;
            }
            long tails = tally.of(tail, size - head);
            headSize = head;
            headNumber = tails > 0 ? left / tails : 0;
            restNumber = tails > 0 ? left % tails : 0;
        }

        /** The first THING of a SET or APART, and the NUMBER of what stands behind it. */
        private void splitBag(int shape, int size, long number) {
            int head = 1;
            while (head < size && number >= tally.bagsUpTo(shape, size, head)) {
                head++;
            }
            long low = 0;
            long high = Math.max(0, tally.of(grammar.a(shape), head) - 1);
            // The last THING of its SIZE ahead of which there are not too many; below LIMIT
            // halving needs 54 rounds.
            for (int round = 0; round < 64 && low < high; round++) {
                long middle = low + (high - low + 1) / 2;
                if (tally.bagsBelow(shape, size, head, middle) <= number) {
                    low = middle;
                } else {
                    high = middle - 1;
                }
            }
            headSize = head;
            headNumber = low;
            restNumber = number - tally.bagsBelow(shape, size, head, low);
        }

        private boolean addLetters(int letters, long number) {
            long left = number;
            int used = 0;
            for (int behind = letters - 1; behind >= 0; behind--) {
                long block = Sums.orders(behind);
                long skipped = block > 0 ? left / block : 0;
                left -= skipped * block;
                int letter = unusedLetter(used, skipped);
                used |= 1 << letter;
                if (!draft.add('a' + letter)) {
                    return false;
                }
            }
            return true;
        }

        private static int unusedLetter(int used, long skipped) {
            long left = skipped;
            for (int letter = 0; letter < 8; letter++) {
                if ((used >> letter & 1) == 0) {
                    if (left == 0) {
                        return letter;
                    }
                    left--;
                }
            }
            return 0;
        }
    }

    /**
     * Takes a writing apart. Its THINGS become nodes in the order of their first bytes, so
     * that a THING stands ahead of all that is within it, and needs no stack of calls.
     */
    private static final class Reader {
        private final Grammar grammar;
        private final Bytes tape;
        private final int[] shapes = new int[ROOM];
        private final int[] places = new int[ROOM];
        private final int[] parents = new int[ROOM];
        private final int[] sizes = new int[ROOM];
        /** The first node that does not stand within this one. */
        private final int[] ends = new int[ROOM];
        /** How many parts a BOTH has so far; which letters an ARRANGED has, as bits. */
        private final int[] progress = new int[ROOM];
        private int nodes;
        private int open;
        private int root;
        private int fault;
        private int faultPlace;

        Reader(Grammar grammar, Bytes tape) {
            this.grammar = grammar;
            this.tape = tape;
        }

        int fault() {
            return fault;
        }

        int faultPlace() {
            return faultPlace;
        }

        int size() {
            return nodes;
        }

        int wholeSize() {
            return sizeAt(0);
        }

        int shapeAt(int node) {
            return Rows.at(shapes, node);
        }

        int placeAt(int node) {
            return Rows.at(places, node);
        }

        int parentAt(int node) {
            return node <= 0 ? NOBODY : Rows.at(parents, node);
        }

        int sizeAt(int node) {
            return Rows.at(sizes, node);
        }

        int endAt(int node) {
            return Rows.at(ends, node);
        }

        /** Finds the FAULTS 1, 2 and 4 of what is on the tape. */
        void scan(int shape) {
            root = shape;
            nodes = 0;
            open = NOBODY;
            Rows.set(sizes, 0, 0);
            int place = 0;
            while (place < tape.length() && takes(tape.at(place), place)) {
                place++;
            }
            if (place < tape.length() || nodes == 0 || open != NOBODY) {
                blame(1, place);
                return;
            }
            sumUp();
            int cut = firstBrokenCut();
            if (cut != NOBODY) {
                blame(2, placeAt(cut));
            } else {
                blame(wholeSize() > TOP_SIZE ? 4 : 0, 0);
            }
        }

        private void blame(int kind, int place) {
            fault = kind;
            faultPlace = place;
        }

        /** Whether the byte can come next; if so, it has come. */
        private boolean takes(int sign, int place) {
            if (open == NOBODY) {
                return nodes == 0 && begins(root, sign, place);
            }
            int shape = shapeAt(open);
            int kind = grammar.kind(shape);
            switch (kind) {
                case BOTH:
                    return takesOfBoth(shape, sign, place);
                case EITHER:
                    boolean first = tape.at(placeAt(open)) == '1';
                    return begins(first ? grammar.a(shape) : grammar.b(shape), sign, place);
                case CUT:
                    return begins(grammar.a(shape), sign, place);
                case ARRANGED:
                    return takesLetter(grammar.a(shape), sign);
                default:
                    if (sign == Rows.at(CLOSER, kind)) {
                        finish(open);
                        return true;
                    }
                    return begins(grammar.a(shape), sign, place);
            }
        }

        private boolean takesOfBoth(int shape, int sign, int place) {
            int had = Rows.at(progress, open);
            if (had < 2) {
                return begins(had == 0 ? grammar.a(shape) : grammar.b(shape), sign, place);
            }
            if (sign != ')') {
                return false;
            }
            finish(open);
            return true;
        }

        private boolean takesLetter(int letters, int sign) {
            int letter = sign - 'a';
            int had = Rows.at(progress, open);
            if (letter < 0 || letter >= letters || (had >> letter & 1) != 0) {
                return false;
            }
            had |= 1 << letter;
            Rows.set(progress, open, had);
            if (Integer.bitCount(had) == letters) {
                finish(open);
            }
            return true;
        }

        private boolean begins(int shape, int sign, int place) {
            int kind = grammar.kind(shape);
            if (nodes >= ROOM || !opens(shape, kind, sign)) {
                return false;
            }
            int node = nodes;
            nodes++;
            boolean hasOwnSize = kind == ATOM || kind == ARRANGED;
            Rows.set(shapes, node, shape);
            Rows.set(places, node, place);
            Rows.set(parents, node, open);
            Rows.set(sizes, node, hasOwnSize ? grammar.a(shape) : 0);
            Rows.set(ends, node, node + 1);
            Rows.set(progress, node, 0);
            if (kind == ATOM || kind == EMPTY) {
                finish(node);
            } else {
                open = node;
            }
            return true;
        }

        private boolean opens(int shape, int kind, int sign) {
            if (kind == ATOM) {
                return sign == 'a' + grammar.b(shape);
            }
            if (kind == EITHER) {
                return sign == '1' || sign == '2';
            }
            return sign == Rows.at(OPENER, kind);
        }

        /** EITHER and CUT have no byte behind their part: they are whole along with it. */
        private void finish(int node) {
            int up = parentAt(node);
            for (int i = 0; i < ROOM && up != NOBODY; i++) {
                int kind = grammar.kind(shapeAt(up));
                if (kind != EITHER && kind != CUT) {
                    break;
                }
                up = parentAt(up);
            }
            if (up != NOBODY) {
                Rows.set(progress, up, Rows.at(progress, up) + 1);
            }
            open = up;
        }

        private void sumUp() {
            for (int node = nodes - 1; node > 0; node--) {
                int up = parentAt(node);
                Rows.set(sizes, up, sizeAt(up) + sizeAt(node));
                Rows.set(ends, up, Math.max(endAt(up), endAt(node)));
            }
        }

        private int firstBrokenCut() {
            for (int node = 0; node < nodes; node++) {
                int shape = shapeAt(node);
                int size = sizeAt(node);
                if (grammar.kind(shape) == CUT && (size < grammar.low(shape) || size > grammar.high(shape))) {
                    return node;
                }
            }
            return NOBODY;
        }
    }

    /** Finds the NUMBERS of the THINGS that the reader took apart without a FAULT. */
    private static final class Ranker {
        private static final long UNKNOWN = -1;

        private final Grammar grammar;
        private final Tally tally;
        private final Reader reader;
        private final Bytes tape;
        private final long[] numbers = new long[ROOM];
        private final int[] partNodes = new int[ROOM];
        private final int[] sortedSizes = new int[ROOM];
        private final long[] sortedNumbers = new long[ROOM];
        private int partCount;
        private int sorted;
        private boolean manyPart;
        private int twinPlace;

        Ranker(Grammar grammar, Tally tally, Reader reader, Bytes tape) {
            this.grammar = grammar;
            this.tally = tally;
            this.reader = reader;
            this.tape = tape;
        }

        boolean hasManyPart() {
            return manyPart;
        }

        boolean hasTwin() {
            return twinPlace != NOBODY;
        }

        int twinPlace() {
            return twinPlace;
        }

        long wholeNumber() {
            return numberAt(0);
        }

        /** From the last node to the first, so that parts come ahead of wholes. */
        void rank() {
            manyPart = false;
            twinPlace = NOBODY;
            for (int node = reader.size() - 1; node >= 0; node--) {
                Rows.set(numbers, node, numberOf(node));
                boolean inBag = node > 0 && grammar.isBag(reader.shapeAt(reader.parentAt(node)));
                if (inBag && numberAt(node) >= LIMIT) {
                    manyPart = true;
                }
            }
        }

        private long numberAt(int node) {
            return Rows.at(numbers, node);
        }

        private long numberOf(int node) {
            int shape = reader.shapeAt(node);
            int kind = grammar.kind(shape);
            gatherParts(node);
            boolean twin = kind == APART && findsTwin();
            if (twin || hasUnknownPart()) {
                return UNKNOWN;
            }
            switch (kind) {
                case BOTH:
                    return numberOfBoth(node, shape);
                case EITHER:
                    boolean first = tape.at(reader.placeAt(node)) == '1';
                    long ahead = first ? 0 : tally.of(grammar.a(shape), reader.sizeAt(node));
                    return Sums.plus(ahead, numberAt(node + 1));
                case ROW:
                    return numberOfRow(node, shape);
                case SET:
                case APART:
                    return numberOfBag(node, shape);
                case CUT:
                    return numberAt(node + 1);
                case ARRANGED:
                    return numberOfLetters(node, grammar.a(shape));
                default:
                    return 0;
            }
        }

        private void gatherParts(int node) {
            int end = reader.endAt(node);
            partCount = 0;
            for (int part = node + 1; part < end && partCount < ROOM; part = Math.max(part + 1, reader.endAt(part))) {
                Rows.set(partNodes, partCount, part);
                partCount++;
            }
        }

        private int part(int i) {
            return Rows.at(partNodes, i);
        }

        private boolean hasUnknownPart() {
            for (int i = 0; i < partCount; i++) {
                if (numberAt(part(i)) == UNKNOWN) {
                    return true;
                }
            }
            return false;
        }

        private boolean findsTwin() {
            for (int i = 0; i < partCount; i++) {
                if (hasTwinAhead(i)) {
                    int place = reader.placeAt(part(i));
                    twinPlace = hasTwin() ? Math.min(twinPlace, place) : place;
                    return true;
                }
            }
            return false;
        }

        private boolean hasTwinAhead(int i) {
            long number = numberAt(part(i));
            int size = reader.sizeAt(part(i));
            for (int j = 0; j < i && number != UNKNOWN; j++) {
                if (numberAt(part(j)) == number && reader.sizeAt(part(j)) == size) {
                    return true;
                }
            }
            return false;
        }

        private long numberOfBoth(int node, int shape) {
            int head = part(0);
            long ahead = tally.ledBelow(shape, reader.sizeAt(node), reader.sizeAt(head), numberAt(head));
            return Sums.plus(ahead, numberAt(part(1)));
        }

        private long numberOfRow(int node, int shape) {
            int left = reader.sizeAt(node);
            long sum = 0;
            for (int i = 0; i < partCount; i++) {
                int size = reader.sizeAt(part(i));
                sum = Sums.plus(sum, tally.ledBelow(shape, left, size, numberAt(part(i))));
                left -= size;
            }
            return sum;
        }

        private long numberOfBag(int node, int shape) {
            sorted = 0;
            for (int i = 0; i < partCount; i++) {
                insert(reader.sizeAt(part(i)), numberAt(part(i)));
            }
            int left = reader.sizeAt(node);
            long sum = 0;
            for (int i = 0; i < sorted && i < ROOM; i++) {
                sum = Sums.plus(sum, tally.bagsBelow(shape, left, sortedSizes[i], sortedNumbers[i]));
                left -= sortedSizes[i];
            }
            return sum;
        }

        /** Puts a THING to its place in the falling order. */
        private void insert(int size, long number) {
            if (sorted >= ROOM) {
                return;
            }
            int i = sorted;
            sorted++;
            while (i > 0 && (sortedSizes[i - 1] < size || sortedSizes[i - 1] == size && sortedNumbers[i - 1] < number)) {
                sortedSizes[i] = sortedSizes[i - 1];
                sortedNumbers[i] = sortedNumbers[i - 1];
                i--;
            }
            Rows.set(sortedSizes, i, size);
            Rows.set(sortedNumbers, i, number);
        }

        private long numberOfLetters(int node, int letters) {
            int place = reader.placeAt(node) + 1;
            int used = 0;
            long sum = 0;
            for (int i = 0; i < letters; i++) {
                int letter = tape.at(place + i) - 'a';
                int below = (1 << letter) - 1;
                sum += Integer.bitCount(below & ~used) * Sums.orders(letters - 1 - i);
                used |= 1 << letter;
            }
            return sum;
        }
    }
}
