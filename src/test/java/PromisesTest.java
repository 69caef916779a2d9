/** For each promise of the document: ordinary calls and wrong inputs; the edges have tests of their own. */
public final class PromisesTest extends Kit {
    public static void main(String[] args) {
        runAll(PromisesTest.class);
    }

    private static void promise1() {
        ShapeHouse x = new ShapeHouse();
        for (int what = 0; what <= 4; what++) {
            due("state of a new house", x.state(what), 0);
        }
        due("out of a new house", x.out(0), NONE);
        due("found of a new house", x.found(0), NONE);
        due("undo of a new house", x.undo(), NO);
        due("about of a new house", x.about(0, 0), BAD);
        due("count of a new house", x.count(0, 0), BAD);
        due("read of a new house", x.read(0), BAD);
        due("again of a new house", x.again(), 0);
    }

    private static final int[][] GOOD = {
        {0, 1, 0}, {0, 9, 25}, {1, 0, 0}, {2, 0, 15}, {2, 15, 0}, {3, 15, 15}, {4, 15, 0}, {5, 0, 0}, {6, 15, 0},
        {7, 15, 0}, {7, 0, 24}, {7, 0, 24 * 32 + 24}, {7, 0, 3 * 32 + 3}, {8, 1, 0}, {8, 8, 0},
    };
    private static final int[][] WRONG = {
        {-1, 0, 0}, {9, 0, 0}, {LOW, 0, 0}, {HIGH, 0, 0}, {0, 0, 0}, {0, 10, 0}, {0, 1, -1}, {0, 1, 26}, {1, 1, 0},
        {1, 0, 1}, {1, -1, 0}, {2, -1, 0}, {2, 0, -1}, {2, 16, 0}, {2, 0, 16}, {3, -1, 0}, {3, 0, 16}, {4, 16, 0},
        {4, -1, 0}, {4, 0, 1}, {4, 0, -1}, {5, 16, 0}, {5, 0, 1}, {5, -1, 0}, {6, 16, 0}, {6, 0, 1}, {6, -1, 0},
        {7, -1, 0}, {7, 16, 0}, {7, 0, 25}, {7, 0, 31}, {7, 0, 32}, {7, 0, -1}, {7, 0, 3 * 32 + 2}, {7, 0, 25 * 32 + 25},
        {7, 0, 24 * 32 + 23}, {7, 0, LOW}, {7, 0, HIGH}, {7, 0, LOW + 5}, {8, 0, 0}, {8, 9, 0}, {8, 1, 1}, {8, -1, 0},
        {0, LOW, HIGH}, {3, HIGH, LOW},
    };

    private static void promise2() {
        ShapeHouse x = new ShapeHouse();
        for (int i = 0; i < GOOD.length; i++) {
            due("good shape " + i, x.shape(GOOD[i][0], GOOD[i][1], GOOD[i][2]), i);
        }
        for (int i = 0; i < WRONG.length; i++) {
            due("wrong shape " + i, x.shape(WRONG[i][0], WRONG[i][1], WRONG[i][2]), BAD);
        }
        due("shapes", x.state(0), 15);
        due("the 16th", x.shape(1, 0, 0), 15);
        due("the 17th", x.shape(1, 0, 0), FULL);
        due("the 17th, wrong", x.shape(1, 0, 1), BAD);
        due("shapes", x.state(0), 16);
    }

    private static void promise3() {
        ShapeHouse x = house(1, 0, 0);
        for (int[] s : GOOD) {
            due("put", x.put(0, s[0], s[1], s[2]), 0);
            due("kind put", x.about(0, 0), s[0]);
            due("a put", x.about(0, 1), s[1]);
            due("b put", x.about(0, 2), s[2]);
        }
        for (int i = 0; i < WRONG.length; i++) {
            due("wrong put " + i, x.put(0, WRONG[i][0], WRONG[i][1], WRONG[i][2]), BAD);
        }
        due("put to none", x.put(1, 1, 0, 0), BAD);
        due("put to -1", x.put(-1, 1, 0, 0), BAD);
        due("put to 16", x.put(16, 1, 0, 0), BAD);
        due("put far", x.put(LOW, 1, 0, 0), BAD);
        due("kind after refusals", x.about(0, 0), 8);
        x = readyHouse(0, 1, 0);
        due("refused put", x.put(0, 0, 0, 0), BAD);
        due("still ready", x.state(4), 1);
        due("same put", x.put(0, 0, 1, 0), 0);
        due("a change, too", x.state(4), 0);
        due("kept, too", x.state(3), 2);
    }

    private static void promise4() {
        ShapeHouse x = house(0, 1, 0, 4, 0, 0);
        x.put(0, 0, 2, 3);
        due("ready", x.ready(), 0);
        due("kept", x.state(3), 3);
        due("undo put", x.undo(), 2);
        due("no more ready", x.state(4), 0);
        due("a is back", x.about(0, 1), 1);
        due("b is back", x.about(0, 2), 0);
        due("ready", x.ready(), 0);
        due("undo shape", x.undo(), 1);
        due("no more ready", x.state(4), 0);
        due("shapes", x.state(0), 1);
        due("gone", x.about(1, 0), BAD);
        due("undo shape", x.undo(), 0);
        due("shapes", x.state(0), 0);
        due("ready", x.ready(), 0);
        due("none left", x.undo(), NO);
        due("refused, still ready", x.state(4), 1);
        due("shape anew", x.shape(8, 3, 0), 0);
        due("kept anew", x.state(3), 1);
    }

    private static void promise4Kept() {
        ShapeHouse x = house(0, 1, 0);
        for (int i = 1; i <= 9; i++) {
            due("put", x.put(0, 0, i, i), 0);
            due("kept", x.state(3), Math.min(8, i + 1));
        }
        due("refused", x.put(0, 0, 10, 0), BAD);
        due("refused", x.shape(9, 0, 0), BAD);
        for (int i = 8; i >= 5; i--) {
            due("undo", x.undo(), i - 1);
            due("a", x.about(0, 1), i);
        }
        due("one more", x.put(0, 8, 8, 0), 0);
        due("kept", x.state(3), 5);
        due("undo it", x.undo(), 4);
        due("a", x.about(0, 1), 5);
        for (int i = 4; i >= 1; i--) {
            due("undo", x.undo(), i - 1);
            due("a", x.about(0, 1), i);
        }
        due("older ones are not kept", x.undo(), NO);
        due("a", x.about(0, 1), 1);
        x = new ShapeHouse();
        for (int i = 0; i < 16; i++) {
            x.shape(1, 0, 0);
        }
        for (int i = 7; i >= 0; i--) {
            due("undo shapes", x.undo(), i);
        }
        due("undo no more", x.undo(), NO);
        due("eight are left", x.state(0), 8);
    }

    private static void promise5() {
        ShapeHouse x = house(0, 9, 25, 7, 3, 66);
        due("kind", x.about(0, 0), 0);
        due("a", x.about(0, 1), 9);
        due("b", x.about(0, 2), 25);
        due("kind", x.about(1, 0), 7);
        due("a", x.about(1, 1), 3);
        due("b", x.about(1, 2), 66);
        due("what 3", x.about(0, 3), BAD);
        due("what -1", x.about(0, -1), BAD);
        due("shape 2", x.about(2, 0), BAD);
        due("shape -1", x.about(-1, 0), BAD);
        due("far", x.about(HIGH, LOW), BAD);
    }

    private static void promise6Parts() {
        due("no shapes", new ShapeHouse().ready(), 0);
        due("BOTH, a missing", house(0, 1, 0, 2, 2, 0).ready(), 17);
        due("BOTH, b missing", house(0, 1, 0, 2, 0, 2).ready(), 17);
        due("EITHER, a missing", house(3, 1, 0).ready(), 16);
        due("EITHER, b missing", house(0, 1, 0, 0, 1, 1, 3, 0, 15).ready(), 18);
        for (int kind = 4; kind <= 7; kind++) {
            due("part missing", house(0, 1, 0, kind, 2, 0).ready(), 17);
        }
        due("no parts", house(0, 9, 5, 8, 8, 0, 1, 0, 0).ready(), 0);
        due("1 ahead of 2 and 3", house(3, 0, 0, 4, 1, 0, 4, 3, 0).ready(), 18);
    }

    private static void promise6Empties() {
        for (int kind = 4; kind <= 6; kind++) {
            due("of EMPTY", house(1, 0, 0, kind, 0, 0).ready(), 33);
            due("of ATOM", house(0, 1, 0, kind, 0, 0).ready(), 0);
            due("of ARRANGED", house(8, 1, 0, kind, 0, 0).ready(), 0);
            due("of ROW", house(0, 1, 0, 4, 0, 0, kind, 1, 0).ready(), 34);
            due("of SET", house(0, 1, 0, 5, 0, 0, kind, 1, 0).ready(), 34);
            due("of APART", house(0, 1, 0, 6, 0, 0, kind, 1, 0).ready(), 34);
            due("of BOTH, both can", house(1, 0, 0, 2, 0, 0, kind, 1, 0).ready(), 34);
            due("of BOTH, one can", house(1, 0, 0, 0, 1, 0, 2, 0, 1, kind, 2, 0).ready(), 0);
            due("of EITHER, one can", house(1, 0, 0, 0, 1, 0, 3, 1, 0, kind, 2, 0).ready(), 35);
            due("of CUT from 0", house(1, 0, 0, 7, 0, 24, kind, 1, 0).ready(), 34);
            due("of CUT from 1", house(1, 0, 0, 7, 0, 32 + 24, kind, 1, 0).ready(), 0);
            due("of CUT from 0 of ATOM", house(0, 1, 0, 7, 0, 24, kind, 1, 0).ready(), 0);
            due("of itself", house(kind, 0, 0).ready(), 32);
        }
        ShapeHouse chain = new ShapeHouse();
        for (int x = 0; x < 15; x++) {
            chain.shape(7, x + 1, 24);
        }
        chain.shape(4, 0, 0);
        due("by way of all sixteen", chain.ready(), 32 + 15);
        due("2 ahead of 3", house(3, 0, 0, 1, 0, 0, 5, 1, 0).ready(), 34);
        due("the least with 2", house(1, 0, 0, 0, 1, 0, 4, 0, 0, 5, 0, 0).ready(), 34);
    }

    private static void promise6Rings() {
        due("EITHER itself by a", house(0, 1, 0, 3, 1, 0).ready(), 49);
        due("EITHER itself by b", house(0, 1, 0, 3, 0, 1).ready(), 49);
        due("CUT itself", house(7, 0, 32 + 1).ready(), 48);
        due("CUT itself from 0", house(7, 0, 1).ready(), 48);
        due("BOTH itself and ATOM", house(0, 1, 0, 2, 1, 0).ready(), 0);
        due("BOTH ATOM and itself", house(0, 1, 0, 2, 0, 1).ready(), 0);
        due("BOTH itself and itself", house(2, 0, 0).ready(), 0);
        due("BOTH itself and EMPTY", house(1, 0, 0, 2, 1, 0).ready(), 49);
        due("BOTH EMPTY and itself", house(1, 0, 0, 2, 0, 1).ready(), 49);
        due("two EITHERS", house(0, 1, 0, 3, 2, 0, 3, 0, 1).ready(), 49);
        due("three CUTS", house(0, 1, 0, 7, 2, 33, 7, 3, 33, 7, 1, 33).ready(), 49);
        due("one that needs a ring is none", house(7, 1, 33, 7, 2, 33, 7, 1, 33).ready(), 49);
        due("trees of SETS", house(0, 1, 19, 5, 2, 0, 2, 0, 1).ready(), 0);
        due("ROW of CUT of it", house(4, 1, 0, 7, 0, 56).ready(), 48);
        due("SET of BOTH of CUTS", house(5, 1, 0, 2, 2, 2, 7, 0, 56).ready(), 0);
    }

    private static void promise6Ready() {
        ShapeHouse x = house(0, 1, 0);
        due("not found so yet", x.count(0, 1), NO);
        due("ready", x.ready(), 0);
        due("found", x.state(4), 1);
        due("ready again", x.ready(), 0);
        due("a refused shape", x.shape(0, 0, 0), BAD);
        due("count", x.count(0, 1), 1);
        x.shape(4, 5, 0);
        due("a shape came", x.count(0, 1), NO);
        due("fault", x.ready(), 17);
        due("found not ready", x.state(4), 0);
        x.put(1, 4, 0, 0);
        due("mended, not found so yet", x.count(0, 1), NO);
        due("ready", x.ready(), 0);
        due("count anew", x.count(1, 24), 1);
    }

    private static void promise7() {
        ShapeHouse x = house(0, 1, 0, 0, 1, 1, 3, 0, 1, 4, 2, 0);
        due("size 25 ahead of NO", x.count(0, 25), BAD);
        due("size -1", x.count(0, -1), BAD);
        due("shape 4", x.count(4, 0), BAD);
        due("shape -1", x.count(-1, 0), BAD);
        due("not ready", x.count(0, 0), NO);
        x.ready();
        for (int size = 0; size <= 24; size++) {
            due("rows of two", x.count(3, size), 1L << size);
        }
        due("far", x.count(LOW, HIGH), BAD);
        x = readyHouse(1, 0, 0, 3, 0, 0, 3, 1, 1, 3, 2, 2, 3, 3, 1, 2, 4, 4, 2, 5, 5, 2, 6, 6, 2, 7, 7, 3, 4, 0, 3, 8, 0);
        due("ten", x.count(4, 0), 10);
        due("10^8", x.count(7, 0), 100000000L);
        due("LIMIT is MANY", x.count(8, 0), MANY);
        due("none of size 1", x.count(8, 1), 0);
        due("eleven", x.count(9, 0), 11);
        due("more than LIMIT", x.count(10, 0), MANY);
        x.put(8, 2, 7, 6);
        due("ready", x.ready(), 0);
        due("10^12", x.count(8, 0), 1000000000000L);
    }

    private static void promise7Kinds() {
        // SETS and APARTS of numbers, one of each SIZE, are partitions: A000041, A000009
        ShapeHouse x = readyHouse(0, 1, 0, 4, 0, 0, 7, 1, 32 + 24, 5, 2, 0, 6, 2, 0, 8, 8, 0, 7, 5, 8, 7, 5, 9 * 32 + 24, 2, 5, 0);
        long[] partitions = {1, 1, 2, 3, 5, 7, 11, 15, 22, 30, 42, 56, 77, 101, 135, 176, 231, 297, 385, 490, 627, 792, 1002, 1255, 1575};
        long[] distinct = {1, 1, 1, 2, 2, 3, 4, 5, 6, 8, 10, 12, 15, 18, 22, 27, 32, 38, 46, 54, 64, 76, 89, 104, 122};
        for (int size = 0; size <= 24; size++) {
            due("SETS " + size, x.count(3, size), partitions[size]);
            due("APARTS " + size, x.count(4, size), distinct[size]);
        }
        due("CUT below", x.count(2, 0), 0);
        due("ARRANGED", x.count(5, 8), 40320);
        due("ARRANGED of 7", x.count(5, 7), 0);
        due("CUT of ARRANGED", x.count(6, 8), 40320);
        due("CUT beyond it", x.count(7, 8), 0);
        due("BOTH", x.count(8, 9), 40320);
        x = readyHouse(0, 1, 19, 5, 2, 0, 2, 0, 1);
        due("trees of 24", x.count(2, 24), 743724984L);
        x = readyHouse(2, 0, 0);
        due("nothing is such a pair", x.count(0, 24), 0);
    }

    private static void promise8() {
        ShapeHouse x = house(0, 1, 0, 0, 1, 1, 3, 0, 1, 4, 2, 0);
        due("size 25", x.upTo(3, 25), BAD);
        due("size -1", x.upTo(3, -1), BAD);
        due("shape 4", x.upTo(4, 1), BAD);
        due("shape -1", x.upTo(-1, 1), BAD);
        due("not ready", x.upTo(3, 1), NO);
        x.ready();
        for (int size = 0; size <= 24; size++) {
            due("rows up to", x.upTo(3, size), (2L << size) - 1);
        }
        due("none", x.upTo(0, 0), 0);
        // 5 * 10^15 things of size 0 and as many of size 1
        x = readyHouse(1, 0, 0, 3, 0, 0, 3, 1, 1, 3, 2, 0, 3, 3, 3, 2, 4, 4, 2, 5, 5, 2, 6, 6, 2, 6, 5, 2, 8, 4, 2, 9, 3,
            2, 10, 7, 0, 1, 0, 2, 11, 12, 3, 11, 13);
        due("5 * 10^15", x.count(11, 0), 5000000000000000L);
        due("of size 0", x.upTo(14, 0), 5000000000000000L);
        due("of size 1", x.count(14, 1), 5000000000000000L);
        due("both", x.upTo(14, 1), MANY);
        due("and further", x.upTo(14, 24), MANY);
    }

    private static void promise9() {
        ShapeHouse x = house(0, 1, 0, 4, 0, 0, 5, 0, 0, 7, 1, 10, 8, 3, 0);
        due("not ready", x.parts(0, 1, 3), NO);
        due("shape 5", x.parts(5, 1, 3), BAD);
        due("other 5", x.parts(1, 5, 3), BAD);
        due("shape -1", x.parts(-1, 1, 3), BAD);
        due("other -1", x.parts(1, -1, 3), BAD);
        due("size 25", x.parts(1, 1, 25), BAD);
        due("size -1", x.parts(1, 1, -1), BAD);
        x.ready();
        due("with itself", x.parts(1, 1, 24), NONE);
        due("ROW and SET of one", x.parts(1, 2, 24), NONE);
        due("at 0", x.parts(0, 1, 24), 0);
        due("CUT to 10", x.parts(1, 3, 24), 11);
        due("CUT to 10, up to 11", x.parts(3, 1, 11), 11);
        due("CUT to 10, up to 10", x.parts(1, 3, 10), NONE);
        due("at 1", x.parts(0, 4, 24), 1);
        x = readyHouse(1, 0, 0, 3, 0, 0, 3, 1, 1, 3, 2, 2, 3, 3, 1, 2, 4, 4, 2, 5, 5, 2, 6, 6, 2, 7, 7, 3, 8, 0);
        due("MANY as MANY", x.parts(8, 9, 24), NONE);
        due("MANY and not", x.parts(7, 8, 24), 0);
    }

    private static void promise10() {
        ShapeHouse x = house(0, 1, 0, 0, 1, 1, 3, 0, 1, 4, 2, 0);
        due("not ready", x.thing(3, 3, 5), NO);
        due("shape", x.thing(4, 3, 5), BAD);
        due("shape", x.thing(-1, 3, 5), BAD);
        due("size", x.thing(3, 25, 5), BAD);
        due("size", x.thing(3, -1, 5), BAD);
        due("number", x.thing(3, 3, -1), BAD);
        due("number", x.thing(3, 3, LIMIT), BAD);
        due("number", x.thing(3, 3, Long.MAX_VALUE), BAD);
        due("number", x.thing(3, 3, Long.MIN_VALUE), BAD);
        x.ready();
        dueThing(x, 3, 3, 5, "[2b1a2b]");
        dueThing(x, 3, 0, 0, "[]");
        dueThing(x, 3, 3, 7, "[2b2b2b]");
        due("no eighth", x.thing(3, 3, 8), NONE);
        due("none so far", x.thing(3, 3, LIMIT - 1), NONE);
        due("none of that size", x.thing(0, 2, 0), NONE);
        due("OUT stays", told(x), "[2b2b2b]");
        due("BAD", x.thing(3, 3, -1), BAD);
        due("OUT stays", told(x), "[2b2b2b]");
        x.shape(1, 0, 0);
        due("NO", x.thing(3, 3, 0), NO);
        due("OUT stays", told(x), "[2b2b2b]");
        x = readyHouse(1, 0, 0, 3, 0, 0, 3, 1, 1, 3, 2, 2, 3, 3, 1, 2, 4, 4, 2, 5, 5, 2, 6, 6, 2, 7, 7);
        due("the last one told", x.thing(8, 0, LIMIT - 1), 16 * 3 + 15 * 2);
        due("again", x.again(), 78);
        due("its number", x.read(8), LIMIT - 1);
    }

    private static void promise10Orders() {
        ShapeHouse x = readyHouse(0, 1, 0, 0, 2, 1, 3, 1, 0, 4, 2, 0, 2, 2, 3, 5, 2, 0, 6, 4, 0, 8, 3, 0, 7, 3, 3 * 32 + 3);
        String[] rows = {"[2a2a2a]", "[2a1b]", "[1b2a]"};
        String[] pairs = {"(2a[2a2a])", "(2a[1b])", "(1b[2a])"};
        String[] letters = {"=abc", "=acb", "=bac", "=bca", "=cab", "=cba"};
        for (int i = 0; i < 3; i++) {
            dueThing(x, 3, 3, i, rows[i]);
            dueThing(x, 4, 3, i, pairs[i]);
            dueThing(x, 8, 3, i, "!" + rows[i]);
        }
        for (int i = 0; i < 6; i++) {
            dueThing(x, 7, 3, i, letters[i]);
        }
        String[] sets = {"{2a2a2a2a}", "{1b2a2a}", "{1b1b}"};
        for (int i = 0; i < 3; i++) {
            dueThing(x, 5, 4, i, sets[i]);
        }
        String[] aparts = {"<(2a[2a])(2a[])>", "<(1b[])(2a[])>", "<(2a[2a2a])>", "<(2a[1b])>", "<(1b[2a])>"};
        due("aparts", x.count(6, 3), aparts.length);
        for (int i = 0; i < aparts.length; i++) {
            dueThing(x, 6, 3, i, aparts[i]);
        }
        x = readyHouse(0, 1, 0, 0, 1, 1, 3, 0, 1, 2, 0, 1, 3, 2, 3, 6, 4, 0, 5, 4, 0, 1, 0, 0, 3, 7, 4);
        String[] fewer = {"<12b11a>"};
        dueThing(x, 5, 2, 0, fewer[0]);
        dueThing(x, 5, 2, 1, "<2(ab)>");
        String[] more = {"{11a11a}", "{12b11a}", "{12b12b}", "{2(ab)}"};
        for (int i = 0; i < more.length; i++) {
            dueThing(x, 6, 2, i, more[i]);
        }
        dueThing(x, 8, 0, 0, "1.");
        dueThing(x, 8, 1, 1, "212b");
    }

    private static void promise11() {
        ShapeHouse x = readyHouse(1, 0, 0);
        for (int i = 1; i <= 15; i++) {
            due("feed", x.feed(0, 0, 0, 0, 0), 20 * i);
        }
        due("no room", x.feed(0, 0, 0, 0, 0), FULL);
        due("300", x.state(1), 300);
        due("trim", x.trim(281), 281);
        due("no room for all", x.feed(0, 0, 0, 0, 0), FULL);
        due("281", x.state(1), 281);
        due("trim", x.trim(280), 280);
        due("room", x.feed(0, 0, 0, 0, 0), 300);
        x = readyHouse(0, 1, 0, 0, 1, 1, 0, 1, 2, 2, 0, 1, 2, 3, 2);
        due("feed", x.feed(0x28286162, 0x2963292e, 0, 0, 0), 20);
        due("trim", x.trim(8), 8);
        due("all but the last", x.read(4), -107);
        due("feed", x.feed(0x28286162, 0x2963292e, 0, 0, 0), 20);
        due("trim", x.trim(7), 7);
        due("highest first", x.read(4), 0);
        x = readyHouse(8, 8, 0, 4, 0, 0);
        due("feed", x.feed(0x5b3d6162, 0x63646566, 0x67683d61, 0x62636465, 0x6667685d), 20);
        due("all five", x.read(1), 0);
        due("size", x.found(1), 16);
        due("feed", x.feed(-1, -1, -1, -1, -1), 20);
        due("bytes above 127", x.read(1), -100);
    }

    private static void promise12() {
        ShapeHouse x = new ShapeHouse();
        due("of nothing", x.trim(0), 0);
        due("more than there is", x.trim(1), BAD);
        due("-1", x.trim(-1), BAD);
        x.feed(1, 2, 3, 4, 5);
        due("more than there is", x.trim(21), BAD);
        due("far", x.trim(HIGH), BAD);
        due("far", x.trim(LOW), BAD);
        due("all", x.trim(20), 20);
        due("some", x.trim(7), 7);
        due("7 bytes", x.state(1), 7);
        due("not back", x.trim(8), BAD);
        due("feed behind", x.feed(0, 0, 0, 0, 0), 27);
        due("none", x.trim(0), 0);
        due("0 bytes", x.state(1), 0);
        x = readyHouse(0, 1, 0, 4, 0, 0);
        x.feed(0x5b616161, 0x61616161, 0, 0, 0);
        x.trim(4);
        x.feed(0x615d0000, 0, 0, 0, 0);
        x.trim(6);
        due("the first ones are kept", x.read(1), 0);
        due("size", x.found(1), 4);
    }

    private static void promise13() {
        ShapeHouse x = readyHouse(0, 1, 0, 4, 0, 0);
        x.feed(1, 2, 3, 4, 5);
        due("no OUT yet", x.again(), 0);
        due("the tape is empty", x.state(1), 0);
        x.thing(1, 5, 0);
        x.feed(1, 2, 3, 4, 5);
        due("again", x.again(), 7);
        due("the tape is OUT", x.state(1), 7);
        due("OUT stays", x.state(2), 7);
        due("read", x.read(1), 0);
        due("size", x.found(1), 5);
        due("and again", x.again(), 7);
        x.shape(1, 0, 0);
        due("ready or not", x.again(), 7);
        due("undo", x.undo(), 2);
        due("OUT outlives shapes", x.again(), 7);
    }

    private static void promise14() {
        ShapeHouse x = house(0, 1, 0, 0, 1, 1, 3, 0, 1, 4, 2, 0, 5, 2, 0);
        x.feed(0, 0, 0, 0, 0);
        due("not ready", x.read(0), NO);
        due("used up by NO", x.state(1), 0);
        x.feed(0, 0, 0, 0, 0);
        due("no shape", x.read(5), BAD);
        due("used up by BAD", x.state(1), 0);
        due("no shape", x.read(-1), BAD);
        due("no shape", x.read(16), BAD);
        due("no shape", x.read(LOW), BAD);
        x.ready();
        dueRead(x, 0, "a", 0, 0, 1);
        dueRead(x, 2, "2b", 1, 0, 1);
        dueRead(x, 3, "[2b1a2b]", 5, 0, 3);
        dueRead(x, 4, "{1a2b1a}", 1, 0, 3);
        dueRead(x, 4, "{1a1a2b}", 1, 0, 3);
        dueRead(x, 4, "{2b1a1a}", 1, 0, 3);
        dueRead(x, 4, "{2b1a2b}", 2, 0, 3);
        dueRead(x, 4, "{}", 0, 0, 0);
        x = readyHouse(0, 1, 0, 0, 2, 1, 3, 0, 1, 6, 2, 0, 2, 0, 3, 6, 4, 0);
        dueRead(x, 3, "<1a2b>", 0, 0, 3);
        dueRead(x, 3, "<2b1a>", 0, 0, 3);
        dueRead(x, 5, "<(a<>)(a<1a2b>)>", 1, 0, 5);
        dueRead(x, 5, "<(a<2b1a>)(a<>)>", 1, 0, 5);
        dueRead(x, 5, "<(a<2b>)(a<1a>)>", 0, 0, 5);
    }

    private static void promise14Fault1() {
        ShapeHouse x = readyHouse(0, 1, 0, 1, 0, 0, 2, 0, 1, 3, 0, 2, 4, 3, 0, 5, 3, 0, 6, 3, 0, 7, 6, 24, 8, 3, 0);
        dueRead(x, 0, "", -100, 1, NONE);
        dueRead(x, 0, "b", -100, 1, NONE);
        dueRead(x, 0, "aa", -101, 1, NONE);
        dueRead(x, 1, ",", -100, 1, NONE);
        dueRead(x, 1, "..", -101, 1, NONE);
        dueRead(x, 2, "(a.", -103, 1, NONE);
        dueRead(x, 2, "(a)", -102, 1, NONE);
        dueRead(x, 2, "(.a)", -101, 1, NONE);
        dueRead(x, 2, "(a.]", -103, 1, NONE);
        dueRead(x, 2, "(a.).", -104, 1, NONE);
        dueRead(x, 3, "3a", -100, 1, NONE);
        dueRead(x, 3, "1", -101, 1, NONE);
        dueRead(x, 3, "1(a.)", -101, 1, NONE);
        dueRead(x, 3, "2a", -101, 1, NONE);
        dueRead(x, 4, "[1a2(a.)", -108, 1, NONE);
        dueRead(x, 4, "[1a}", -103, 1, NONE);
        dueRead(x, 5, "{1a]", -103, 1, NONE);
        dueRead(x, 5, "[1a]", -100, 1, NONE);
        dueRead(x, 6, "<1a}", -103, 1, NONE);
        dueRead(x, 6, "<>>", -102, 1, NONE);
        dueRead(x, 7, "<1a>", -100, 1, NONE);
        dueRead(x, 7, "!!<>", -101, 1, NONE);
        dueRead(x, 8, "=abd", -103, 1, NONE);
        dueRead(x, 8, "=aba", -103, 1, NONE);
        dueRead(x, 8, "=ab", -103, 1, NONE);
        dueRead(x, 8, "=abcd", -104, 1, NONE);
        dueRead(x, 8, "=`bc", -101, 1, NONE);
        dueRead(x, 8, "abc", -100, 1, NONE);
    }

    private static void promise14Fault2And4() {
        ShapeHouse x = readyHouse(0, 9, 0, 0, 1, 1, 3, 0, 1, 4, 2, 0, 7, 3, 2 * 32 + 10, 2, 4, 4, 7, 5, 13 * 32 + 20, 6, 2, 0,
            2, 4, 7);
        dueRead(x, 4, "![2b2b]", 0, 0, 2);
        dueRead(x, 4, "![2b]", -100, 2, NONE);
        dueRead(x, 4, "![1a2b]", 2, 0, 10);
        dueRead(x, 4, "![1a2b2b]", -100, 2, NONE);
        dueRead(x, 4, "![1a1a1a]", -100, 2, NONE);
        dueRead(x, 5, "(![2b2b]![2b])", -108, 2, NONE);
        dueRead(x, 5, "(![2b]![])", -101, 2, NONE);
        dueRead(x, 6, "!(![2b2b]![2b])", -100, 2, NONE);
        dueRead(x, 6, "!(![1a2b]![2b2b])", -100, 2, NONE);
        dueRead(x, 6, "!(![1a1a1a]![2b2b])", -100, 2, NONE);
        dueRead(x, 6, "!(![2b2b]![1a1a])", -109, 2, NONE);
        dueRead(x, 6, "!(![2b2b]![1a1a]", -116, 1, NONE);
        dueRead(x, 3, "[1a1a2b2b2b2b2b2b]", 44, 0, 24);
        dueRead(x, 3, "[1a1a2b2b2b2b2b2b2b]", -100, 4, NONE);
        dueRead(x, 3, "[1a1a1a]", -100, 4, NONE);
        dueRead(x, 3, "[1a1a1a", -107, 1, NONE);
        dueRead(x, 7, "<1a1a1a>", -100, 4, NONE);
        dueRead(x, 8, "(![2b]<1a1a>)", -101, 2, NONE);
    }

    private static void promise14Fault3() {
        ShapeHouse x = readyHouse(0, 1, 0, 0, 1, 1, 3, 0, 1, 6, 2, 0, 2, 0, 3, 6, 4, 0, 5, 4, 0, 2, 5, 6);
        dueRead(x, 3, "<1a2b>", 0, 0, 2);
        dueRead(x, 3, "<1a1a>", -103, 3, 2);
        dueRead(x, 3, "<1a2b1a2b>", -105, 3, 4);
        dueRead(x, 3, "<2b2b1a1a>", -103, 3, 4);
        dueRead(x, 5, "<(a<1a2b>)(a<2b1a>)>", -110, 3, 6);
        dueRead(x, 5, "<(a<1a1a>)(a<1a1a>)>", -106, 3, 6);
        dueRead(x, 5, "<(a<>)(a<>)(a<1a1a>)>", -106, 3, 5);
        dueRead(x, 5, "<(a<>)(a<1a1a>)(a<>)>", -111, 3, 5);
        dueRead(x, 6, "{(a<1a>)(a<1a>)}", 2, 0, 4);
        dueRead(x, 6, "{(a<1a>)(a<1a1a>)}", -113, 3, 5);
        dueRead(x, 7, "(<(a<>)(a<>)>{(a<1a1a>)})", -107, 3, 5);
        dueRead(x, 7, "(<(a<>)>{(a<1a1a>)})", -114, 3, 4);
        x = readyHouse(0, 1, 0, 6, 0, 0, 2, 0, 1, 6, 2, 0, 7, 3, 2 * 32 + 3);
        dueRead(x, 4, "!<(a<>)(a<>)>", -107, 3, 2);
        dueRead(x, 4, "!<(a<>)(a<>)(a<>)(a<>)>", -100, 2, NONE);
    }

    /** A THING of SHAPE 12 below: a pair of one of 2 * 10^16 and an atom. */
    private static String great(char choice, String first) {
        String one = "21.", two = "(" + first + one + ")", four = "(" + two + "(" + one + one + "))";
        String plain = "((" + one + one + ")(" + one + one + "))";
        String eight = "(" + four + plain + ")", other = "(" + plain + plain + ")";
        return "(" + choice + "(" + eight + other + ")a)";
    }

    private static void promise14Many() {
        ShapeHouse x = readyHouse(1, 0, 0, 3, 0, 0, 3, 1, 1, 3, 2, 2, 3, 3, 1, 2, 4, 4, 2, 5, 5, 2, 6, 6, 2, 7, 7,
            3, 8, 8, 0, 1, 0, 6, 12, 0, 2, 9, 10, 5, 12, 0, 2, 11, 12, 6, 14, 0);
        due("so many", x.count(12, 1), MANY);
        String low = great('1', "21."), next = great('1', "22."), high = great('2', "21.");
        dueRead(x, 12, low, 8888888888888888L, 0, 1);
        dueRead(x, 12, next, 9888888888888888L, 0, 1);
        dueRead(x, 12, high, MANY, 0, 1);
        dueRead(x, 11, "<" + low + ">", 8888888888888888L, 0, 1);
        dueRead(x, 11, "<" + high + ">", MANY, 0, 1);
        dueRead(x, 11, "<" + low + next + ">", MANY, 0, 2);
        dueRead(x, 11, "<" + low + low + ">", -100 - 1 - low.length(), 3, 2);
        dueRead(x, 11, "<" + high + high + ">", MANY, 0, 2);
        dueRead(x, 11, "<" + low + low + high + ">", MANY, 0, 3);
        dueRead(x, 11, "<" + high + low + low + ">", MANY, 0, 3);
        dueRead(x, 11, "<" + low + low + next + ">", -100 - 1 - low.length(), 3, 3);
        dueRead(x, 13, "{" + low + low + "}", MANY, 0, 2);
        dueRead(x, 13, "{" + high + "}", MANY, 0, 1);
        dueRead(x, 14, "(<>" + high + ")", MANY, 0, 1);
        // a part of the outer APART whose pair is MANY has no NUMBER for the FAULT within it
        String pair = "(<" + low + low + ">" + high + ")";
        dueRead(x, 14, pair, -100 - 2 - low.length(), 3, 3);
        dueRead(x, 15, "<" + pair + ">", -100 - 3 - low.length(), 3, 3);
        String half = "<(<>" + low + ")(<" + low + low + ">(";
        dueRead(x, 15, half, -100 - half.length(), 1, NONE);
        dueRead(x, 11, "<" + high + high, -101 - 2 * high.length(), 1, NONE);
    }

    private static void promise14Deep() {
        ShapeHouse x = readyHouse(2, 0, 0, 0, 1, 0, 2, 1, 2, 1, 0, 0, 3, 5, 3, 2, 1, 4);
        String open = "(".repeat(300);
        dueRead(x, 0, open, -400, 1, NONE);
        dueRead(x, 0, open.substring(1) + ")", -399, 1, NONE);
        dueRead(x, 2, "(a".repeat(150), -400, 1, NONE);
        String nested = "1(a".repeat(24) + "2." + ")".repeat(24);
        dueRead(x, 4, nested, 0, 0, 24);
        dueRead(x, 4, "1(a".repeat(25) + "2." + ")".repeat(25), -100, 4, NONE);
        dueRead(x, 4, "1(a".repeat(74) + "2." + ")".repeat(74), -100, 4, NONE);
        dueRead(x, 4, "1(a".repeat(74) + "2." + ")".repeat(73), -397, 1, NONE);
        String wide = ".".repeat(299);
        x = readyHouse(0, 9, 0, 4, 0, 0, 1, 0, 0);
        dueRead(x, 1, "[" + "a".repeat(298) + "]", -100, 4, NONE);
        dueRead(x, 1, "[" + "a".repeat(299), -400, 1, NONE);
        dueRead(x, 2, "." + wide, -101, 1, NONE);
    }

    private static void promise15() {
        ShapeHouse x = house(0, 3, 0);
        due("nothing read", x.found(0), NONE);
        due("nothing read", x.found(1), NONE);
        due("nothing read", x.found(2), NONE);
        due("BAD ahead of NONE", x.found(3), BAD);
        due("BAD ahead of NONE", x.found(-1), BAD);
        due("far", x.found(LOW), BAD);
        due("refused", x.read(0), NO);
        due("nothing read", x.found(0), NONE);
        due("refused", x.read(1), BAD);
        due("nothing read", x.found(2), NONE);
        x.ready();
        dueRead(x, 0, "a", 0, 0, 3);
        due("what 3", x.found(3), BAD);
        x.feed(0, 0, 0, 0, 0);
        due("refused", x.read(1), BAD);
        due("what was found stays", x.found(1), 3);
        due("what was found stays", x.found(2), 1);
        dueRead(x, 0, "ab", -101, 1, NONE);
        x.put(0, 1, 0, 0);
        due("refused", x.read(0), NO);
        due("what was found stays", x.found(0), 1);
        due("what was found stays", x.found(2), 2);
        x.ready();
        dueRead(x, 0, ".", 0, 0, 0);
        due("again", x.again(), 0);
        due("read nothing", x.read(0), -100);
        due("fault", x.found(0), 1);
        due("bytes", x.found(2), 0);
    }

    private static void promise16() {
        ShapeHouse x = readyHouse(8, 3, 0);
        due("no OUT", x.out(0), NONE);
        x.thing(0, 3, 5);
        due("=", x.out(0), '=');
        due("c", x.out(1), 'c');
        due("b", x.out(2), 'b');
        due("a", x.out(3), 'a');
        due("behind", x.out(4), NONE);
        due("ahead", x.out(-1), NONE);
        due("far", x.out(HIGH), NONE);
        due("far", x.out(LOW), NONE);
        x.put(0, 0, 1, 25);
        x.ready();
        due("one", x.thing(0, 1, 0), 1);
        due("z", x.out(0), 'z');
        due("shorter now", x.out(1), NONE);
    }

    private static void promise17() {
        ShapeHouse x = house(0, 1, 0, 4, 0, 0);
        x.put(0, 0, 1, 1);
        due("shapes", x.state(0), 2);
        due("tape", x.state(1), 0);
        due("OUT", x.state(2), 0);
        due("kept", x.state(3), 3);
        due("not found so", x.state(4), 0);
        x.ready();
        due("found so", x.state(4), 1);
        x.thing(1, 3, 0);
        x.feed(0, 0, 0, 0, 0);
        due("tape", x.state(1), 20);
        due("OUT", x.state(2), 5);
        due("what 5", x.state(5), BAD);
        due("what -1", x.state(-1), BAD);
        due("far", x.state(HIGH), BAD);
        x.undo();
        due("kept", x.state(3), 2);
        due("changed", x.state(4), 0);
        due("tape stays", x.state(1), 20);
        due("OUT stays", x.state(2), 5);
    }
}
