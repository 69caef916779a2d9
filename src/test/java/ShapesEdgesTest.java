import java.math.BigInteger;
import java.util.HashSet;
import java.util.Set;

/** The edges that the terms name ahead of 1 and in 1: answers, SHAPES, THINGS, THE ORDER and THE NUMBER. */
public final class ShapesEdgesTest extends Kit {
    public static void main(String[] args) {
        runAll(ShapesEdgesTest.class);
    }

    /** Whether numbers a, b are as told for a KIND. */
    private interface Told {
        boolean fits(int a, int b);
    }

    // ---- ahead of 1

    /** What it is, "An object is used for at most 512 calls after it has been made": the 512th is answered, too. */
    private static void lastCall() {
        ShapeHouse x = readyHouse(0, 1, 0, 0, 1, 1, 3, 0, 1, 4, 2, 0);
        for (int call = 6; call <= 510; call++) {
            due("call " + call, x.count(3, call % 25), 1L << call % 25);
        }
        due("call 511", x.thing(3, 24, 1), 50);
        due("call 512", x.out(48), 'b');
        x = house(0, 1, 0);
        for (int call = 2; call <= 510; call++) {
            due("call " + call, x.put(0, 0, 1 + call % 9, call % 26), 0);
        }
        due("call 511", x.undo(), 7);
        due("call 512", x.about(0, 2), 509 % 26);
    }

    /** Terms, "All numbers are whole.": none is rounded, up to the last below LIMIT. */
    private static void noneRounded() {
        ShapeHouse x = limits();
        due("odd, and above 2^53", x.count(12, 15), 9999999999999999L);
        for (long number = LIMIT - 9; number < LIMIT; number++) {
            due("told", x.thing(13, 15, number) > 0 ? 1 : 0, 1);
            due("again", x.again(), x.state(2));
            due("read", x.read(13), number);
        }
    }

    /** Terms, "A call that is refused answers one of BAD, NO, FULL, of several the one that stands first here": BAD ahead of NO. */
    private static void badAheadOfNo() {
        ShapeHouse x = house(0, 1, 0);
        due("count, shape", x.count(1, 0), BAD);
        due("count, size", x.count(0, 25), BAD);
        due("upTo, shape", x.upTo(1, 0), BAD);
        due("upTo, size", x.upTo(0, 25), BAD);
        due("parts, shape", x.parts(1, 0, 0), BAD);
        due("parts, other", x.parts(0, 1, 0), BAD);
        due("parts, size", x.parts(0, 0, 25), BAD);
        due("thing, shape", x.thing(1, 0, 0), BAD);
        due("thing, size", x.thing(0, 25, 0), BAD);
        due("thing, number", x.thing(0, 0, LIMIT), BAD);
        due("read", x.read(1), BAD);
        due("it is not ready", x.count(0, 0), NO);
    }

    /** Terms, "of several the one that stands first here": BAD ahead of FULL. */
    private static void badAheadOfFull() {
        ShapeHouse x = new ShapeHouse();
        for (int i = 0; i < 16; i++) {
            x.shape(1, 0, 0);
        }
        due("shape", x.shape(1, 0, 1), BAD);
        due("shape, as told", x.shape(1, 0, 0), FULL);
        x = full();
        due("ready", x.ready(), 0);
        due("thing, size", x.thing(11, 25, 0), BAD);
        due("thing, number", x.thing(11, 0, -1), BAD);
        due("thing, as told", x.thing(11, 0, 0), FULL);
    }

    /** Terms, "of several the one that stands first here": NO ahead of FULL (and of NONE, which is no refusal). */
    private static void noAheadOfFull() {
        ShapeHouse x = full();
        due("it would have 301 bytes", x.thing(11, 0, 0), NO);
        due("there is none", x.thing(11, 1, 0), NO);
        x.ready();
        due("it has 301 bytes", x.thing(11, 0, 0), FULL);
        due("there is none", x.thing(11, 1, 0), NONE);
    }

    /** SHAPES 9, 10 and 11 have one THING of SIZE 0 each, of 299, 300 and 301 bytes. */
    private static ShapeHouse full() {
        return house(1, 0, 0, 2, 0, 0, 2, 1, 1, 2, 2, 2, 2, 3, 3, 2, 4, 4, 2, 5, 5, 2, 6, 5, 2, 7, 2, 7, 8, 24, 7, 9, 24, 7, 10, 24);
    }

    /** Terms, "MANY: not below LIMIT, 10^16.": LIMIT - 1 is told, LIMIT and more is MANY. */
    private static void manyFromLimitOn() {
        ShapeHouse x = limits();
        due("LIMIT - 1", x.count(10, 15), LIMIT - 1);
        due("LIMIT", x.count(11, 15), MANY);
        due("LIMIT by a sum", x.count(15, 15), MANY);
        due("twice LIMIT", x.count(14, 15), MANY);
        due("10 LIMIT", x.count(11, 16), MANY);
        due("far above", x.count(11, 24), MANY);
        due("a tenth of LIMIT", x.count(11, 14), LIMIT / 10);
        x = readyHouse(1, 0, 0, 3, 0, 0, 3, 1, 0, 2, 2, 2, 3, 3, 0, 2, 4, 4, 2, 5, 5, 2, 6, 6, 3, 7, 0, 3, 6, 0, 3, 4, 0, 2, 3, 10,
            3, 5, 0, 2, 11, 12, 2, 13, 9, 2, 14, 8);
        due("(10^8 - 1) * (10^8 + 1)", x.count(15, 0), LIMIT - 1);
        x.put(15, 2, 7, 7);
        x.ready();
        due("10^8 * 10^8", x.count(15, 0), MANY);
    }

    /**
     * Of SIZE 15 there are LIMIT - 1 THINGS of 10 and 12, LIMIT of 11, 13 and 15, twice LIMIT of 14; 12 to 14 have none
     * of other SIZES.
     */
    static ShapeHouse limits() {
        return readyHouse(1, 0, 0, 0, 1, 0, 3, 0, 0, 3, 2, 0, 2, 3, 3, 3, 4, 0, 2, 5, 1, 4, 6, 0, 4, 1, 0, 2, 7, 8, 2, 4, 9, 2, 5, 7,
            7, 10, 15 * 33, 7, 11, 15 * 33, 3, 13, 13, 3, 12, 8);
    }

    /** A number, or MANY. */
    private static long orMany(BigInteger n) {
        return n.compareTo(BigInteger.valueOf(LIMIT)) >= 0 ? MANY : n.longValueExact();
    }

    private static BigInteger choose(BigInteger top, int k) {
        BigInteger ways = BigInteger.ONE;
        for (int i = 0; i < k; i++) {
            ways = ways.multiply(top.subtract(BigInteger.valueOf(i))).divide(BigInteger.valueOf(i + 1));
        }
        return ways;
    }

    /** SHAPES 4 to 8 have 10, 10^2, 10^4, 10^8, 10^16 THINGS of SIZE 0; 9 is an ATOM; 10 pairs it with one of those. */
    private static ShapeHouse tens(int some) {
        return readyHouse(1, 0, 0, 3, 0, 0, 3, 1, 1, 3, 2, 2, 3, 3, 1, 2, 4, 4, 2, 5, 5, 2, 6, 6, 2, 7, 7, 0, 1, 0, 2, some, 9,
            5, 10, 0, 6, 10, 0);
    }

    /** Terms, "MANY: not below LIMIT, 10^16.": of SETS and APARTS of few THINGS and of MANY. */
    private static void manySets() {
        BigInteger things = BigInteger.TEN;
        for (int some = 4; some <= 8; some++) {
            ShapeHouse x = tens(some);
            due("THINGS", x.count(10, 1), orMany(things));
            for (int size = 0; size <= 24; size++) {
                due("SETS " + some + " of " + size, x.count(11, size), orMany(choose(things.add(BigInteger.valueOf(size - 1)), size)));
                due("APARTS " + some + " of " + size, x.count(12, size), orMany(choose(things, size)));
            }
            things = things.multiply(things);
        }
    }

    /** Terms, "MANY: not below LIMIT, 10^16.": of SETS and APARTS, LIMIT - 1 and LIMIT. */
    private static void manySetsFromLimitOn() {
        for (int kind = 5; kind <= 6; kind++) {
            ShapeHouse x = limits();
            x.put(15, kind, 12, 0);
            due("ready", x.ready(), 0);
            due("LIMIT - 1", x.count(15, 15), LIMIT - 1);
            due("the last", x.thing(15, 15, LIMIT - 2) > 0 ? 1 : 0, 1);
            due("no more of them", x.thing(15, 15, LIMIT - 1), NONE);
            x.put(15, kind, 13, 0);
            due("ready", x.ready(), 0);
            due("LIMIT", x.count(15, 15), MANY);
            due("the last", x.thing(15, 15, LIMIT - 1) > 0 ? 1 : 0, 1);
            due("again", x.again(), x.state(2));
            due("its number", x.read(15), LIMIT - 1);
        }
    }

    /** Terms 1, "SETS and APARTS (told in falling order)": the first and last NUMBERS that are told, where there are MANY. */
    private static void numbersOfManySets() {
        for (int some = 6; some <= 8; some++) {
            for (int size = 1; size <= 6; size++) {
                ShapeHouse x = tens(some);
                for (int shape = 11; shape <= 12; shape++) {
                    for (long number : new long[] {0, 1, LIMIT / 2, LIMIT - 2, LIMIT - 1}) {
                        if (x.count(shape, size) == MANY && x.thing(shape, size, number) != FULL) {
                            due("again", x.again(), x.state(2));
                            due("number of " + size + " of " + some, x.read(shape), number);
                        }
                    }
                }
            }
        }
    }

    /** Terms, "NONE: there is none." and the five answers that are no number of something. */
    private static void constants() {
        due("BAD", ShapeHouse.BAD, BAD);
        due("NO", ShapeHouse.NO, NO);
        due("FULL", ShapeHouse.FULL, FULL);
        due("MANY", ShapeHouse.MANY, MANY);
        due("NONE", ShapeHouse.NONE, NONE);
        due("LIMIT", ShapeHouse.LIMIT, LIMIT);
    }

    // ---- SHAPES as told

    /** Terms 1, "SHAPES, 16 at most, numbered from 0 as they come": the 16th is taken, the 17th is not. */
    private static void sixteenShapes() {
        ShapeHouse x = new ShapeHouse();
        for (int i = 0; i < 16; i++) {
            due("shape", x.shape(0, 1 + i % 9, i), i);
        }
        due("the 17th", x.shape(0, 1, 0), FULL);
        due("shapes", x.state(0), 16);
        due("the 16th is as it came", x.about(15, 2), 15);
        due("undo", x.undo(), 7);
        due("the 16th anew", x.shape(0, 9, 25), 15);
        due("it is the new one", x.about(15, 1), 9);
        due("the 17th", x.shape(0, 1, 0), FULL);
    }

    /** Terms 1, "SHAPES, 16 at most, numbered from 0 as they come": each KIND works with each number. */
    private static void eachKindAtEachNumber() {
        int[] kinds = {0, 1, 2, 3, 4, 5, 6, 7, 8};
        String[] first = {"b", ".", "(aa)", "1a", "[a]", "{a}", "<a>", "!a", "=ab"};
        int[] sizes = {1, 0, 2, 1, 1, 1, 1, 1, 2};
        for (int number = 0; number < 16; number++) {
            int part = (number + 7) % 16;
            for (int kind : kinds) {
                ShapeHouse x = new ShapeHouse();
                for (int i = 0; i < 16; i++) {
                    boolean other = i != number;
                    boolean two = kind == 2 || kind == 3;
                    int a = kind == 0 ? 1 : kind == 1 ? 0 : kind == 8 ? 2 : part;
                    int b = kind == 0 ? 1 : two ? part : kind == 7 ? 24 : 0;
                    x.shape(other ? 0 : kind, other ? 1 : a, other ? 0 : b);
                }
                due("ready", x.ready(), 0);
                dueThing(x, number, sizes[kind], 0, first[kind]);
                due("an ATOM beside it", x.count(part, 1), 1);
                due("of its SIZE", x.count(number, sizes[kind]), kind == 3 || kind == 8 ? 2 : 1);
            }
        }
    }

    /** Terms 1, "have a KIND and numbers a, b": KINDS 0 to 8, neither -1 nor 9. */
    private static void kinds() {
        int[][] some = {{0, 1, 0}, {1, 0, 0}, {2, 0, 0}, {3, 0, 0}, {4, 0, 0}, {5, 0, 0}, {6, 0, 0}, {7, 0, 0}, {8, 1, 0}};
        for (int[] s : some) {
            dueTold(new ShapeHouse(), s[0], s[1], s[2], true);
        }
        for (int kind : new int[] {-1, 9, 10, 16, 32}) {
            dueTold(new ShapeHouse(), kind, 0, 0, false);
            dueTold(new ShapeHouse(), kind, 1, 0, false);
        }
        for (int far : FAR) {
            dueTold(new ShapeHouse(), far, 0, 0, false);
            dueTold(new ShapeHouse(), far + 1, 1, 0, false);
        }
    }

    /** shape() and put() take the numbers or not; the house has a SHAPE 0, or gets one. */
    private static void dueTold(ShapeHouse x, int kind, int a, int b, boolean told) {
        String numbers = "(" + kind + ", " + a + ", " + b + ")";
        if (x.state(0) == 0) {
            x.shape(1, 0, 0);
        }
        due("put" + numbers, x.put(0, kind, a, b), told ? 0 : BAD);
        due("shape" + numbers, x.shape(kind, a, b), told ? 1 : BAD);
        if (x.state(0) == 2) {
            x.undo();
        }
    }

    /** Goes through all numbers around those as told, and some that are far away. */
    private static void dueNumbers(int kind, Told told) {
        int[] as = range(-3, 40), bs = range(-40, 840);
        ShapeHouse x = new ShapeHouse();
        int used = 0;
        for (int a : as) {
            for (int b : bs) {
                dueTold(x, kind, a, b, told.fits(a, b));
                used++;
                if (used % 80 == 0) {
                    x = new ShapeHouse();
                }
            }
        }
    }

    private static int[] range(int from, int to) {
        int[] all = new int[to - from + 1 + FAR.length];
        for (int i = from; i <= to; i++) {
            all[i - from] = i;
        }
        System.arraycopy(FAR, 0, all, to - from + 1, FAR.length);
        return all;
    }

    private static boolean within(int n, int from, int to) {
        return from <= n && n <= to;
    }

    /** Terms 1, "0 ATOM: the SIZE a, 1 .. 9; a SIGN b, 0 .. 25 (a .. z)." */
    private static void atomNumbers() {
        dueNumbers(0, (a, b) -> within(a, 1, 9) && within(b, 0, 25));
    }

    /** Terms 1, "1 EMPTY (a, b are 0)" */
    private static void emptyNumbers() {
        dueNumbers(1, (a, b) -> a == 0 && b == 0);
    }

    /** Terms 1, "2 BOTH of SHAPES a, b (0 .. 15)", whether there are such SHAPES yet or not. */
    private static void bothNumbers() {
        dueNumbers(2, (a, b) -> within(a, 0, 15) && within(b, 0, 15));
    }

    /** Terms 1, "3 EITHER of SHAPES a, b" */
    private static void eitherNumbers() {
        dueNumbers(3, (a, b) -> within(a, 0, 15) && within(b, 0, 15));
    }

    /** Terms 1, "4 ROW of SHAPE a (b is 0)" */
    private static void rowNumbers() {
        dueNumbers(4, (a, b) -> within(a, 0, 15) && b == 0);
    }

    /** Terms 1, "5 SET of SHAPE a (b is 0)" */
    private static void setNumbers() {
        dueNumbers(5, (a, b) -> within(a, 0, 15) && b == 0);
    }

    /** Terms 1, "6 APART of SHAPE a (b is 0)" */
    private static void apartNumbers() {
        dueNumbers(6, (a, b) -> within(a, 0, 15) && b == 0);
    }

    /** Terms 1, "whose SIZE is low .. high (0 .. 24, low not above high), b being 32 * low + high" */
    private static void cutNumbers() {
        Set<Integer> spans = new HashSet<>();
        for (int low = 0; low <= 24; low++) {
            for (int high = low; high <= 24; high++) {
                spans.add(32 * low + high);
            }
        }
        due("spans", spans.size(), 325);
        dueNumbers(7, (a, b) -> within(a, 0, 15) && spans.contains(b));
    }

    /** Terms 1, "8 ARRANGED, a letters (1 .. 8; b is 0)" */
    private static void arrangedNumbers() {
        dueNumbers(8, (a, b) -> within(a, 1, 8) && b == 0);
    }

    // ---- THINGS

    /** Each SIZE that is told has as many THINGS, every other has none. */
    private static void dueCounts(ShapeHouse x, int shape, long... sizesAndCounts) {
        for (int size = 0; size <= 24; size++) {
            long want = 0;
            for (int i = 0; i + 1 < sizesAndCounts.length; i += 2) {
                want = sizesAndCounts[i] == size ? sizesAndCounts[i + 1] : want;
            }
            due("of size " + size, x.count(shape, size), want);
        }
    }

    /** Terms 1, "Its one THING is written as that letter.": the least and greatest SIZE, every letter. */
    private static void atomThing() {
        for (int size = 1; size <= 9; size++) {
            dueCounts(readyHouse(0, size, 7), 0, size, 1);
        }
        for (int sign = 0; sign <= 25; sign++) {
            ShapeHouse x = readyHouse(0, 1 + sign % 9, sign);
            String letter = String.valueOf((char) ('a' + sign));
            dueThings(x, 0, 1 + sign % 9, letter);
            dueRead(x, 0, letter, 0, 0, 1 + sign % 9);
            dueFault(x, 0, String.valueOf((char) ('a' + sign - 1)), 1, 0);
            dueFault(x, 0, String.valueOf((char) ('a' + sign + 1)), 1, 0);
        }
    }

    /** Terms 1, "any number of its THINGS": one alone, of the greatest SIZE. */
    private static void oneOfSize24() {
        String row = "[" + "a".repeat(24) + "]";
        ShapeHouse x = readyHouse(0, 1, 0, 4, 0, 0, 7, 1, 24 * 33, 4, 2, 0, 5, 2, 0, 6, 2, 0);
        dueCounts(x, 3, 0, 1, 24, 1);
        dueCounts(x, 4, 0, 1, 24, 1);
        dueCounts(x, 5, 0, 1, 24, 1);
        dueThings(x, 3, 24, "[!" + row + "]");
        dueThings(x, 4, 24, "{!" + row + "}");
        dueThings(x, 5, 24, "<!" + row + ">");
    }

    /** Terms 1, "its one THING, of SIZE 0, is written ." */
    private static void emptyThing() {
        ShapeHouse x = readyHouse(1, 0, 0);
        dueCounts(x, 0, 0, 1);
        dueThings(x, 0, 0, ".");
        due("of size 1", x.thing(0, 1, 0), NONE);
    }

    /** Terms 1, "a THING of a and one of b; their SIZES together; ( and both and )": from 0 to 24, and beyond. */
    private static void bothThing() {
        ShapeHouse x = readyHouse(1, 0, 0, 2, 0, 0, 0, 9, 0, 0, 6, 1, 0, 7, 2, 2, 2, 2, 2, 5, 3, 2, 5, 4, 2, 0, 2, 2, 2, 0);
        dueCounts(x, 1, 0, 1);
        dueThings(x, 1, 0, "(..)");
        dueCounts(x, 5, 18, 1);
        dueCounts(x, 6, 24, 1);
        dueThings(x, 6, 24, "((aa)b)");
        dueCounts(x, 7);
        dueThings(x, 8, 9, "(.a)");
        dueThings(x, 9, 9, "(a.)");
    }

    /** Terms 1, "one of a, written 1 and it; or one of b, written 2 and it (which of them is part of the THING)." */
    private static void eitherThing() {
        ShapeHouse x = readyHouse(0, 9, 0, 3, 0, 0, 1, 0, 0, 3, 2, 0, 3, 0, 2);
        dueCounts(x, 1, 9, 2);
        dueThings(x, 1, 9, "1a", "2a");
        dueCounts(x, 3, 0, 1, 9, 1);
        dueThings(x, 3, 0, "1.");
        dueThings(x, 3, 9, "2a");
        dueThings(x, 4, 0, "2.");
        dueThings(x, 4, 9, "1a");
    }

    /** Terms 1, "any number of its THINGS one behind the other, or none; SIZES together; [ and all and ]" */
    private static void rowThing() {
        for (int n = 0; n <= 24; n++) {
            dueThings(readyHouse(0, 1, 0, 4, 0, 0), 1, n, "[" + "a".repeat(n) + "]");
        }
        ShapeHouse x = readyHouse(0, 1, 0, 4, 0, 0, 0, 8, 1, 4, 2, 0, 0, 9, 2, 2, 2, 4, 2, 5, 4, 4, 6, 0);
        dueCounts(x, 3, 0, 1, 8, 1, 16, 1, 24, 1);
        dueThings(x, 3, 24, "[bbb]");
        // its THINGS would be of SIZE 26, so there is only the ROW of none
        dueCounts(x, 7, 0, 1);
        dueThings(x, 7, 0, "[]");
    }

    /** Terms 1, "any number of its THINGS, alike ones, too, without order; { and all, in falling order, and }" */
    private static void setThing() {
        for (int n = 0; n <= 24; n++) {
            dueThings(readyHouse(0, 1, 0, 5, 0, 0), 1, n, "{" + "a".repeat(n) + "}");
        }
        ShapeHouse x = readyHouse(0, 1, 0, 5, 0, 0, 0, 2, 1, 3, 0, 2, 5, 3, 0, 3, 2, 0, 5, 5, 0);
        dueThings(x, 4, 0, "{}");
        dueThings(x, 4, 3, "{1a1a1a}", "{2b1a}");
        // the greater SIZE falls ahead of the lesser, whichever of them EITHER has first
        dueThings(x, 6, 4, "{2a2a2a2a}", "{1b2a2a}", "{1b1b}");
        dueThings(readyHouse(0, 1, 0, 0, 1, 1, 3, 0, 1, 5, 2, 0), 3, 2, "{1a1a}", "{2b1a}", "{2b2b}");
    }

    /** Terms 1, "likewise, no two alike; < and all, in falling order, and >" */
    private static void apartThing() {
        ShapeHouse x = readyHouse(0, 1, 0, 6, 0, 0, 3, 0, 0, 6, 2, 0, 0, 2, 1, 3, 4, 0, 6, 5, 0);
        dueCounts(x, 1, 0, 1, 1, 1);
        dueThings(x, 1, 0, "<>");
        dueThings(x, 1, 1, "<a>");
        dueCounts(x, 3, 0, 1, 1, 2, 2, 1);
        dueThings(x, 3, 2, "<2a1a>");
        dueThings(x, 6, 3, "<1b2a>");
        // of eight letters' arrangements no more than three find room in SIZE 24
        x = readyHouse(8, 8, 0, 6, 0, 0);
        dueCounts(x, 1, 0, 1, 8, 40320, 16, 40320L * 40319 / 2, 24, 40320L * 40319 * 40318 / 6);
        dueThing(x, 1, 24, 0, "<=abcdegfh=abcdefhg=abcdefgh>");
    }

    /** Terms 1, "7 CUT of SHAPE a: its THINGS whose SIZE is low .. high": both ends, and next to them; "! and the THING." */
    private static void cutThing() {
        int[][] spans = {{0, 0}, {0, 24}, {1, 24}, {24, 24}, {3, 5}, {4, 4}, {0, 23}, {23, 24}};
        for (int[] s : spans) {
            ShapeHouse x = readyHouse(0, 1, 0, 4, 0, 0, 7, 1, 32 * s[0] + s[1]);
            for (int size = 0; size <= 24; size++) {
                due(s[0] + " .. " + s[1] + " of " + size, x.count(2, size), s[0] <= size && size <= s[1] ? 1 : 0);
            }
            dueThings(x, 2, s[0], "![" + "a".repeat(s[0]) + "]");
            dueThings(x, 2, s[1], "![" + "a".repeat(s[1]) + "]");
        }
        dueCounts(readyHouse(0, 3, 0, 7, 0, 32 * 4 + 24), 1);
        dueCounts(readyHouse(0, 3, 0, 7, 0, 2), 1);
        dueThings(readyHouse(1, 0, 0, 7, 0, 0, 7, 1, 24), 2, 0, "!!.");
    }

    /** Terms 1, "the first a letters from a on, each once; SIZE a; = and the letters." */
    private static void arrangedThing() {
        long orders = 1;
        for (int n = 1; n <= 8; n++) {
            orders *= n;
            ShapeHouse x = readyHouse(8, n, 0);
            dueCounts(x, 0, n, orders);
            String letters = "abcdefgh".substring(0, n);
            dueThing(x, 0, n, 0, "=" + letters);
            dueThing(x, 0, n, orders - 1, "=" + new StringBuilder(letters).reverse());
            due("no more of them", x.thing(0, n, orders), NONE);
        }
    }

    // ---- THE ORDER and THE NUMBER

    /** Terms 1, "THE ORDER of a SHAPE's THINGS: by SIZE": of parts, the lesser SIZE comes first in BOTH and ROW. */
    private static void orderBySize() {
        ShapeHouse x = readyHouse(0, 1, 25, 0, 2, 0, 3, 1, 0, 2, 2, 2, 4, 2, 0);
        dueThings(x, 3, 3, "(2z1a)", "(1a2z)");
        dueThings(x, 4, 3, "[2z2z2z]", "[2z1a]", "[1a2z]");
    }

    /** Terms 1, "of one SIZE: those of EITHER's a ahead of those of b" */
    private static void orderOfEither() {
        ShapeHouse x = readyHouse(8, 2, 0, 0, 2, 0, 3, 0, 1, 3, 1, 0);
        dueThings(x, 2, 2, "1=ab", "1=ba", "2a");
        dueThings(x, 3, 2, "1a", "2=ab", "2=ba");
    }

    /** Terms 1, "BOTH by the first, then by the second" */
    private static void orderOfBoth() {
        ShapeHouse x = readyHouse(8, 2, 0, 0, 2, 25, 3, 1, 0, 2, 0, 2);
        dueThings(x, 3, 4, "(=ab1z)", "(=ab2=ab)", "(=ab2=ba)", "(=ba1z)", "(=ba2=ab)", "(=ba2=ba)");
    }

    /** Terms 1, "by their first THINGS, if these are alike by the second ones, and so on": ROWS. */
    private static void orderOfRows() {
        ShapeHouse x = readyHouse(0, 1, 0, 0, 1, 1, 3, 0, 1, 4, 2, 0);
        dueThings(x, 3, 3, "[1a1a1a]", "[1a1a2b]", "[1a2b1a]", "[1a2b2b]", "[2b1a1a]", "[2b1a2b]", "[2b2b1a]", "[2b2b2b]");
    }

    /** Terms 1, "ROWS, SETS and APARTS (told in falling order)": SETS and APARTS by their greatest THING, then the next. */
    private static void orderOfSets() {
        ShapeHouse x = readyHouse(0, 1, 0, 0, 1, 1, 3, 0, 1, 0, 2, 2, 3, 2, 3, 5, 4, 0, 6, 4, 0, 3, 4, 0, 6, 7, 0);
        dueThings(x, 5, 3, "{11a11a11a}", "{12b11a11a}", "{12b12b11a}", "{12b12b12b}", "{2c11a}", "{2c12b}");
        dueThings(x, 6, 3, "<2c11a>", "<2c12b>");
        dueThings(x, 8, 3, "<2a112b111a>", "<12c111a>", "<12c112b>", "<12c2a>");
    }

    /** Terms 1, "ARRANGED by the letters." */
    private static void orderOfArranged() {
        dueThings(readyHouse(8, 1, 0), 0, 1, "=a");
        dueThings(readyHouse(8, 3, 0), 0, 3, "=abc", "=acb", "=bac", "=bca", "=cab", "=cba");
    }

    /** Terms 1, "THE NUMBER of a THING: how many THINGS of its SHAPE and SIZE come ahead of it.": 0 to one less than all. */
    private static void numbers() {
        ShapeHouse x = readyHouse(0, 1, 0, 0, 1, 1, 3, 0, 1, 4, 2, 0);
        dueThing(x, 3, 24, 0, "[" + "1a".repeat(24) + "]");
        dueThing(x, 3, 24, (1 << 24) - 1, "[" + "2b".repeat(24) + "]");
        due("no more of them", x.thing(3, 24, 1 << 24), NONE);
        // THINGS of lesser SIZES are not among those ahead
        dueRead(x, 3, "[1a]", 0, 0, 1);
        dueRead(x, 3, "[2b]", 1, 0, 1);
        dueRead(x, 3, "[]", 0, 0, 0);
    }
}
