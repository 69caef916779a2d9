/** The edges that the promises name, call by call. */
public final class CallsEdgesTest extends Kit {
    public static void main(String[] args) {
        runAll(CallsEdgesTest.class);
    }

    // ---- shapes

    /** Promise 1, "No SHAPES, an empty tape, no OUT.": and nothing is kept, found READY or read. */
    private static void newHouse() {
        ShapeHouse x = new ShapeHouse();
        for (int what = 0; what <= 4; what++) {
            due("state " + what, x.state(what), 0);
        }
        due("no SHAPE 0", x.about(0, 0), BAD);
        due("nothing to trim", x.trim(1), BAD);
        due("no byte", x.out(0), NONE);
        due("no OUT to read", x.again(), 0);
        for (int what = 0; what <= 2; what++) {
            due("found " + what, x.found(what), NONE);
        }
        due("none is kept", x.undo(), NO);
        due("the first SHAPE", x.shape(1, 0, 0), 0);
        due("another house has none of it", new ShapeHouse().state(0), 0);
    }

    /** Promise 2, "One more SHAPE: its number.": from 0 to 15, and it is what was told. */
    private static void shapeNumbers() {
        ShapeHouse x = new ShapeHouse();
        for (int i = 0; i < 16; i++) {
            due("shapes", x.state(0), i);
            due("shape", x.shape(7, 15 - i, 33 * i), i);
            due("kind", x.about(i, 0), 7);
            due("a", x.about(i, 1), 15 - i);
            due("b", x.about(i, 2), 33 * i);
        }
        due("the first is as it was", x.about(0, 1), 15);
    }

    /** Promise 2, "BAD: kind, a, b are not as told; FULL.": FULL from the 17th on, until one is taken back. */
    private static void shapeRefused() {
        ShapeHouse x = house(0, 1, 0);
        due("kind", x.shape(9, 0, 0), BAD);
        due("a", x.shape(0, 10, 0), BAD);
        due("b", x.shape(0, 1, 26), BAD);
        due("still one", x.state(0), 1);
        for (int i = 1; i < 16; i++) {
            due("shape", x.shape(1, 0, 0), i);
        }
        due("FULL", x.shape(1, 0, 0), FULL);
        due("and BAD", x.shape(1, 1, 0), BAD);
        due("put is not", x.put(15, 0, 2, 2), 0);
        due("FULL", x.shape(1, 0, 0), FULL);
        due("undo the put", x.undo(), 7);
        due("FULL", x.shape(1, 0, 0), FULL);
        due("undo the shape", x.undo(), 6);
        due("room", x.shape(1, 0, 0), 15);
    }

    /** Promise 3, "A SHAPE has another KIND and numbers (or the same: a change, too): 0.": the first and the last SHAPE. */
    private static void putFirstAndLast() {
        ShapeHouse x = house(0, 1, 0, 0, 2, 1, 0, 3, 2);
        due("the first", x.put(0, 8, 5, 0), 0);
        due("the last", x.put(2, 7, 1, 66), 0);
        due("kind", x.about(0, 0), 8);
        due("a", x.about(0, 1), 5);
        due("b", x.about(0, 2), 0);
        due("kind", x.about(2, 0), 7);
        due("a", x.about(2, 1), 1);
        due("b", x.about(2, 2), 66);
        due("the one between", x.about(1, 1), 2);
        due("kept", x.state(3), 5);
        due("ready", x.ready(), 0);
        due("the same", x.put(2, 7, 1, 66), 0);
        due("is kept, too", x.state(3), 6);
        due("and ends READY", x.state(4), 0);
        due("undo it", x.undo(), 5);
        due("it is the same", x.about(2, 2), 66);
    }

    /** Promise 3, "BAD.": a SHAPE that there is not, or numbers that are not as told. */
    private static void putRefused() {
        ShapeHouse x = house(0, 1, 0, 0, 2, 1);
        due("the last", x.put(1, 0, 2, 1), 0);
        due("behind the last", x.put(2, 0, 1, 0), BAD);
        due("ahead of the first", x.put(-1, 0, 1, 0), BAD);
        due("the 16th", x.put(15, 0, 1, 0), BAD);
        due("the 17th", x.put(16, 0, 1, 0), BAD);
        for (int far : FAR) {
            due("far", x.put(far, 0, 1, 0), BAD);
        }
        due("kind", x.put(0, 9, 0, 0), BAD);
        due("kind", x.put(0, -1, 0, 0), BAD);
        due("a", x.put(0, 0, 0, 0), BAD);
        due("b", x.put(0, 0, 1, -1), BAD);
        due("as it was", x.about(0, 1), 1);
        due("kept", x.state(3), 3);
        x.undo();
        x.undo();
        due("taken back", x.put(1, 0, 1, 0), BAD);
        due("none at all", new ShapeHouse().put(0, 0, 1, 0), BAD);
    }

    /** Promise 4, "The latest of shape(), put() that was not refused and is kept is taken back": refused ones are no changes. */
    private static void undoLatest() {
        ShapeHouse x = house(0, 1, 0);
        x.put(0, 0, 2, 2);
        x.shape(8, 4, 0);
        due("refused", x.shape(8, 9, 0), BAD);
        due("refused", x.put(0, 8, 9, 0), BAD);
        due("refused", x.put(2, 8, 1, 0), BAD);
        due("the shape", x.undo(), 2);
        due("shapes", x.state(0), 1);
        due("the put is there", x.about(0, 1), 2);
        due("the put", x.undo(), 1);
        due("shapes", x.state(0), 1);
        due("as it came", x.about(0, 1), 1);
        due("the first shape", x.undo(), 0);
        due("shapes", x.state(0), 0);
    }

    /** Promise 4, "how many are kept still.": from 7 down to 0, as state(3) tells. */
    private static void undoCounts() {
        ShapeHouse x = house(0, 1, 0, 0, 1, 1, 0, 1, 2, 0, 1, 3, 0, 1, 4, 0, 1, 5, 0, 1, 6, 0, 1, 7);
        for (int left = 7; left >= 0; left--) {
            due("undo", x.undo(), left);
            due("kept", x.state(3), left);
            due("shapes", x.state(0), left);
        }
        due("no more", x.undo(), NO);
    }

    /** Promise 4, "The latest 8 are kept": of eight all, of nine all but the first. */
    private static void undoEight() {
        for (int puts = 6; puts <= 20; puts++) {
            ShapeHouse x = house(1, 0, 0);
            for (int i = 1; i <= puts; i++) {
                x.put(0, 0, 1, i);
            }
            int kept = Math.min(8, puts + 1);
            due("kept", x.state(3), kept);
            for (int left = kept - 1; left >= 0; left--) {
                due("undo", x.undo(), left);
            }
            due("no more", x.undo(), NO);
            due("shapes", x.state(0), puts + 1 > 8 ? 1 : 0);
            if (puts + 1 > 8) {
                due("kind of what stays", x.about(0, 0), puts == 8 ? 1 : 0);
                due("b of what stays", x.about(0, 2), puts - 8);
            }
        }
    }

    /** Promise 4, "The latest 8 are kept": each with its own SHAPE, KIND and numbers, however many came ahead of them. */
    private static void undoEightUnlike() {
        int[][] puts = {{0, 0, 1, 1}, {1, 1, 0, 0}, {2, 2, 3, 4}, {3, 3, 5, 6}, {4, 4, 7, 0}, {0, 5, 8, 0}, {1, 6, 9, 0},
            {2, 7, 10, 66}, {3, 8, 2, 0}, {4, 0, 3, 12}, {0, 1, 0, 0}, {3, 2, 13, 14}};
        ShapeHouse x = house(0, 9, 20, 0, 9, 21, 0, 9, 22, 0, 9, 23, 0, 9, 24);
        int[][] now = {{0, 9, 20}, {0, 9, 21}, {0, 9, 22}, {0, 9, 23}, {0, 9, 24}};
        int[][] ahead = new int[puts.length][];
        for (int i = 0; i < puts.length; i++) {
            int[] p = puts[i];
            ahead[i] = now[p[0]];
            now[p[0]] = new int[] {p[1], p[2], p[3]};
            due("put", x.put(p[0], p[1], p[2], p[3]), 0);
        }
        for (int i = puts.length - 1; i >= puts.length - 8; i--) {
            due("undo", x.undo(), i - puts.length + 8);
            now[puts[i][0]] = ahead[i];
            for (int shape = 0; shape < 5; shape++) {
                for (int what = 0; what <= 2; what++) {
                    due("shape " + shape + ", " + what, x.about(shape, what), now[shape][what]);
                }
            }
        }
        due("no more", x.undo(), NO);
    }

    /** Promise 4, "one that is taken back no more.": it is neither kept nor does it bring an older one back. */
    private static void undoTakenBack() {
        ShapeHouse x = house(1, 0, 0);
        for (int i = 1; i <= 10; i++) {
            x.put(0, 0, 1, i);
        }
        due("undo", x.undo(), 7);
        due("undo", x.undo(), 6);
        due("b", x.about(0, 2), 8);
        x.put(0, 0, 1, 21);
        due("kept", x.state(3), 7);
        x.put(0, 0, 1, 22);
        due("kept", x.state(3), 8);
        x.put(0, 0, 1, 23);
        due("kept", x.state(3), 8);
        int[] back = {22, 21, 8, 7, 6, 5, 4, 3};
        for (int i = 0; i < 8; i++) {
            due("undo", x.undo(), 7 - i);
            due("b", x.about(0, 2), back[i]);
        }
        due("no more", x.undo(), NO);
        due("b", x.about(0, 2), 3);
    }

    /** Promise 4, "The latest of shape(), put()": a SHAPE that came, was changed, taken back and comes anew. */
    private static void undoShapeAnew() {
        ShapeHouse x = house(0, 1, 0, 0, 2, 1);
        x.put(1, 8, 3, 0);
        due("undo the put", x.undo(), 2);
        due("undo the shape", x.undo(), 1);
        due("it is not there", x.about(1, 0), BAD);
        due("anew", x.shape(4, 0, 0), 1);
        due("kind", x.about(1, 0), 4);
        x.put(1, 5, 0, 0);
        due("undo the put", x.undo(), 2);
        due("kind", x.about(1, 0), 4);
    }

    /** Promise 4, "NO: none is kept.": at first, behind all that are kept, and behind one that was taken back. */
    private static void undoNone() {
        ShapeHouse x = new ShapeHouse();
        due("at first", x.undo(), NO);
        due("refused ones are not kept", x.shape(0, 0, 0), BAD);
        due("still none", x.undo(), NO);
        x.shape(0, 1, 0);
        due("one", x.undo(), 0);
        due("none", x.undo(), NO);
        due("none", x.undo(), NO);
        due("shapes", x.state(0), 0);
    }

    /** Promise 5, "Of a SHAPE: what 0 its KIND, 1 a, 2 b. BAD.": what -1 and 3, the SHAPES next to the first and last. */
    private static void aboutEdges() {
        ShapeHouse x = house(0, 9, 25, 8, 8, 0, 7, 15, 24 * 33);
        long[][] want = {{0, 9, 25}, {8, 8, 0}, {7, 15, 24 * 33}};
        for (int shape = -1; shape <= 16; shape++) {
            for (int what = -1; what <= 3; what++) {
                boolean told = shape >= 0 && shape <= 2 && what >= 0 && what <= 2;
                due("about " + shape + ", " + what, x.about(shape, what), told ? want[shape][what] : BAD);
            }
        }
        for (int far : FAR) {
            due("far what", x.about(0, far), BAD);
            due("far shape", x.about(far, 0), BAD);
        }
        x.undo();
        due("taken back", x.about(2, 0), BAD);
    }

    /**
     * Promise 6, "Whether the grammar is READY: 0; else 16 times its FAULT, and the least SHAPE with that": of SHAPE 0, of
     * SHAPE 15, and of the lesser of two.
     */
    private static void readyAnswers() {
        int[][] faulty = {{4, 15, 0}, {4, 14, 0}, {7, 0, 24}};
        for (int fault = 1; fault <= 3; fault++) {
            int[] s = faulty[fault - 1];
            ShapeHouse x = new ShapeHouse();
            x.shape(s[0], s[1], s[2]);
            for (int i = 1; i < 15; i++) {
                x.shape(i == 14 ? 1 : 0, i == 14 ? 0 : 1, 0);
            }
            due("of SHAPE 0", x.ready(), 16 * fault);
            due("found ready", x.state(4), 0);
            x.put(0, 0, 1, 0);
            due("none", x.ready(), 0);
            if (fault == 1) {
                x.put(14, 4, 15, 0);
                due("of SHAPE 14", x.ready(), 16 + 14);
            } else {
                x.shape(s[0], fault == 2 ? 14 : 15, s[2]);
                due("of SHAPE 15", x.ready(), 16 * fault + 15);
                x.put(3, s[0], fault == 2 ? 14 : 3, s[2]);
                due("the lesser of two", x.ready(), 16 * fault + 3);
            }
        }
        due("the lesser of two with 1", house(0, 1, 0, 4, 9, 0, 4, 8, 0).ready(), 17);
    }

    /** Promise 6, "(of 3: that NEEDS itself)": not one that only needs a RING, though its number is less. */
    private static void readyRing() {
        due("SHAPES 0 and 1 lead to 2", house(7, 1, 24, 7, 2, 24, 7, 2, 24).ready(), 50);
        due("SHAPE 0 leads to 1 and 2", house(3, 1, 2, 7, 2, 24, 7, 1, 24).ready(), 49);
    }

    /** Promise 6, "(A grammar without SHAPES is.)": at first, and when all were taken back. */
    private static void readyWithoutShapes() {
        ShapeHouse x = new ShapeHouse();
        due("not found so yet", x.state(4), 0);
        due("ready", x.ready(), 0);
        due("found ready", x.state(4), 1);
        x.shape(7, 0, 24);
        due("a RING", x.ready(), 48);
        x.undo();
        due("not found so yet", x.state(4), 0);
        due("ready", x.ready(), 0);
        due("found ready", x.state(4), 1);
    }

    // ---- counting

    /** A call of a SHAPE that is refused for the first number that is no SHAPE's, on both sides, and for far ones. */
    private interface OfShape {
        long ask(int shape);
    }

    private static void dueOfShape(String call, int shapes, long want, OfShape asked) {
        for (int shape = -2; shape <= 17; shape++) {
            due(call + " of " + shape, asked.ask(shape), shape >= 0 && shape < shapes ? want : BAD);
        }
        for (int far : FAR) {
            due(call + " of " + far, asked.ask(far), BAD);
        }
    }

    /** Promise 7, "How many THINGS of a SIZE a SHAPE has; MANY.": none, one, LIMIT - 1, LIMIT. */
    private static void countEdges() {
        ShapeHouse x = ShapesEdgesTest.limits();
        due("none of SIZE 0", x.count(1, 0), 0);
        due("one of SIZE 1", x.count(1, 1), 1);
        due("none of SIZE 24", x.count(1, 24), 0);
        due("one of SIZE 24", x.count(8, 24), 1);
        due("LIMIT - 1", x.count(12, 15), LIMIT - 1);
        due("LIMIT", x.count(13, 15), MANY);
        due("none", x.count(13, 16), 0);
    }

    /** Promise 7, "How many THINGS of a SIZE a SHAPE has": whatever numbers the SHAPES have that it needs. */
    private static void countInAnyOrder() {
        // a chain of CUTS to an ATOM, numbered by steps that come by all sixteen
        for (int step = 1; step < 16; step += 2) {
            for (int from = 0; from < 16; from++) {
                ShapeHouse x = new ShapeHouse();
                int[] next = new int[16];
                for (int i = 0; i < 15; i++) {
                    next[(from + i * step) % 16] = (from + (i + 1) * step) % 16;
                }
                int last = (from + 15 * step) % 16;
                for (int i = 0; i < 16; i++) {
                    x.shape(i == last ? 0 : 7, i == last ? 5 : next[i], i == last ? 3 : 24);
                }
                due("ready", x.ready(), 0);
                for (int i = 0; i < 16; i++) {
                    due("of SIZE 5", x.count(i, 5), 1);
                    due("of SIZE 0", x.count(i, 0), 0);
                }
            }
        }
    }

    /** Promise 7, "How many THINGS of a SIZE a SHAPE has": none of what it was ahead of a change. */
    private static void countOfOnceEmpty() {
        ShapeHouse x = readyHouse(1, 0, 0, 1, 0, 0);
        due("EMPTY", x.count(0, 0), 1);
        x.put(0, 2, 0, 0);
        x.put(1, 2, 0, 1);
        due("ready", x.ready(), 0);
        for (int size = 0; size <= 24; size++) {
            due("a pair of itself", x.count(0, size), 0);
            due("a pair with itself", x.count(1, size), 0);
        }
    }

    /** Promise 7, "BAD; NO: the grammar is not READY (here and below).": for all five calls, and that none is else. */
    private static void notReady() {
        ShapeHouse x = house(0, 1, 0, 4, 0, 0);
        dueOfShape("count", 2, NO, s -> x.count(s, 1));
        dueOfShape("upTo", 2, NO, s -> x.upTo(s, 1));
        dueOfShape("parts", 2, NO, s -> x.parts(s, 0, 1));
        dueOfShape("parts, other", 2, NO, s -> x.parts(0, s, 1));
        dueOfShape("thing", 2, NO, s -> x.thing(s, 1, 0));
        dueOfShape("read", 2, NO, s -> x.read(s));
        ShapeHouse faulty = house(0, 1, 0, 4, 0, 0, 7, 2, 24);
        due("a RING", faulty.ready(), 50);
        due("count", faulty.count(0, 1), NO);
        due("upTo", faulty.upTo(0, 1), NO);
        due("parts", faulty.parts(0, 1, 1), NO);
        due("thing", faulty.thing(0, 1, 0), NO);
        due("read", faulty.read(0), NO);
    }

    /** Promise 7, "BAD": the SHAPES there are, and those next to them, of a grammar that is READY. */
    private static void countOfShape() {
        ShapeHouse x = readyHouse(0, 1, 0, 4, 0, 0, 8, 1, 0);
        dueOfShape("count", 3, 1, s -> x.count(s, 1));
    }

    /** Promise 8, "How many of all SIZES up to one; MANY. BAD; NO.": LIMIT - 1 and LIMIT as sums, SIZE 0 and 24. */
    private static void upToEdges() {
        ShapeHouse x = readyHouse(1, 0, 0, 0, 1, 0, 3, 0, 0, 3, 2, 0, 2, 3, 3, 3, 4, 1, 2, 5, 5, 2, 6, 6, 2, 7, 7, 2, 8, 8);
        // of SIZE k there are C(16, k) * 9^(16 - k), together 10^16 up to SIZE 16, where there is one
        due("of SIZE 16", x.count(9, 16), 1);
        due("of SIZE 0", x.upTo(9, 0), 1853020188851841L);
        due("up to 15", x.upTo(9, 15), LIMIT - 1);
        due("up to 16", x.upTo(9, 16), MANY);
        due("up to 24", x.upTo(9, 24), MANY);
        due("none up to 0", x.upTo(1, 0), 0);
        due("one up to 1", x.upTo(1, 1), 1);
        due("one up to 24", x.upTo(1, 24), 1);
        ShapeHouse y = readyHouse(0, 1, 0, 4, 0, 0, 8, 1, 0);
        dueOfShape("upTo", 3, 1, s -> y.upTo(s, s == 1 ? 0 : 1));
        due("one of each SIZE up to 24", y.upTo(1, 24), 25);
        // what is MANY of one SIZE is MANY of all SIZES above it
        ShapeHouse z = ShapesEdgesTest.limits();
        due("below", z.upTo(13, 14), 0);
        due("at it", z.upTo(13, 15), MANY);
        due("above", z.upTo(13, 24), MANY);
    }

    /** Promise 9, "The least SIZE up to one for which two SHAPES have not as many THINGS": the SIZE told is among them. */
    private static void partsEdges() {
        for (int size = 0; size <= 24; size++) {
            ShapeHouse x = readyHouse(0, 1, 0, 4, 0, 0, 7, 1, size, 7, 1, 32 * size + 24);
            due("up to it", x.parts(1, 2, size), NONE);
            if (size < 24) {
                due("one further", x.parts(1, 2, size + 1), size + 1);
                due("the other way", x.parts(2, 1, 24), size + 1);
            }
            due("from it on", x.parts(1, 3, 24), size == 0 ? NONE : 0);
        }
    }

    /** Promise 9, "(MANY is as many as MANY); NONE.": LIMIT is as many as twice LIMIT, and not as many as LIMIT - 1. */
    private static void partsMany() {
        ShapeHouse x = ShapesEdgesTest.limits();
        due("LIMIT and twice LIMIT", x.parts(13, 14, 24), NONE);
        due("LIMIT - 1 and LIMIT", x.parts(12, 13, 24), 15);
        due("LIMIT - 1 and LIMIT, up to 15", x.parts(12, 13, 15), 15);
        due("LIMIT - 1 and LIMIT, up to 14", x.parts(12, 13, 14), NONE);
        due("a SHAPE and itself", x.parts(13, 13, 24), NONE);
    }

    /** Promise 9, "BAD; NO.": either SHAPE. */
    private static void partsOfShape() {
        ShapeHouse x = readyHouse(0, 1, 0, 0, 1, 1, 8, 1, 0);
        dueOfShape("parts", 3, NONE, s -> x.parts(s, 0, 24));
        dueOfShape("parts, other", 3, NONE, s -> x.parts(0, s, 24));
    }

    /** Promise 10, "OUT becomes the THING of a NUMBER of a SHAPE and SIZE, written: how many bytes.": nothing of a longer one stays. */
    private static void thingBytes() {
        ShapeHouse x = readyHouse(0, 1, 0, 4, 0, 0, 1, 0, 0);
        due("26 bytes", x.thing(1, 24, 0), 26);
        due("OUT", told(x), "[" + "a".repeat(24) + "]");
        due("two bytes", x.thing(1, 0, 0), 2);
        due("OUT", told(x), "[]");
        due("one byte", x.thing(2, 0, 0), 1);
        due("OUT", told(x), ".");
        due("no second", x.out(1), NONE);
    }

    /** Promise 10, "BAD: shape, size, the number is not 0 .. LIMIT - 1": both ends of each, and those next to them. */
    private static void thingBad() {
        ShapeHouse x = readyHouse(0, 1, 0, 8, 1, 0);
        dueOfShape("thing", 2, NONE, s -> x.thing(s, 1, 1));
        due("size 0", x.thing(0, 0, 0), NONE);
        due("size 24", x.thing(0, 24, 0), NONE);
        due("size -1", x.thing(0, -1, 0), BAD);
        due("size 25", x.thing(0, 25, 0), BAD);
        due("number 0", x.thing(0, 1, 0), 1);
        due("number -1", x.thing(0, 1, -1), BAD);
        due("number LIMIT - 1", x.thing(0, 1, LIMIT - 1), NONE);
        due("number LIMIT", x.thing(0, 1, LIMIT), BAD);
        due("number LIMIT + 1", x.thing(0, 1, LIMIT + 1), BAD);
        due("the greatest", x.thing(0, 1, Long.MAX_VALUE), BAD);
        due("the least", x.thing(0, 1, Long.MIN_VALUE), BAD);
        due("0 only in its low half", x.thing(0, 1, 1L << 32), NONE);
        due("0 only in its low half", x.thing(0, 1, 1L << 60), BAD);
        due("-1 only in its low half", x.thing(0, 1, 0xffffffffL), NONE);
    }

    /** Promise 10, "NONE: there are not so many": the last NUMBER there is and the next, up to where there are MANY. */
    private static void thingNone() {
        ShapeHouse x = ShapesEdgesTest.limits();
        due("the last of ten", x.thing(6, 1, 9), 5);
        due("behind it", x.thing(6, 1, 10), NONE);
        due("none of that SIZE", x.thing(6, 2, 0), NONE);
        due("the last of LIMIT - 1", x.thing(12, 15, LIMIT - 2) > 0 ? 1 : 0, 1);
        due("again", x.again(), x.state(2));
        due("its number", x.read(12), LIMIT - 2);
        due("behind it", x.thing(12, 15, LIMIT - 1), NONE);
        due("the last of LIMIT", x.thing(13, 15, LIMIT - 1) > 0 ? 1 : 0, 1);
        due("again", x.again(), x.state(2));
        due("its number", x.read(13), LIMIT - 1);
        due("of twice LIMIT", x.thing(14, 15, LIMIT - 1) > 0 ? 1 : 0, 1);
        due("it is one of the first half", x.out(0), '1');
        due("behind it no number is told", x.thing(14, 15, LIMIT), BAD);
    }

    /** Promise 10, "FULL: it would have more than 300 bytes.": 299, 300 and 301, and far more than could be written. */
    private static void thingFull() {
        ShapeHouse x = readyHouse(1, 0, 0, 2, 0, 0, 2, 1, 1, 2, 2, 2, 2, 3, 3, 2, 4, 4, 2, 5, 5, 2, 6, 5, 2, 7, 2, 7, 8, 24, 7, 9, 24,
            7, 10, 24, 2, 11, 11, 2, 12, 12, 2, 13, 13, 2, 14, 14);
        due("299", x.thing(9, 0, 0), 299);
        due("300", x.thing(10, 0, 0), 300);
        due("301", x.thing(11, 0, 0), FULL);
        due("some 4800", x.thing(15, 0, 0), FULL);
        due("OUT is the one of 300", x.state(2), 300);
        due("none is not FULL", x.thing(11, 1, 0), NONE);
        due("it can be read", x.again(), 300);
        due("its number", x.read(10), 0);
        due("299 once more", x.thing(9, 0, 0), 299);
        due("FULL once more", x.thing(14, 0, 0), FULL);
        due("a short one behind it", x.thing(1, 0, 0), 4);
        due("OUT", told(x), "(..)");
    }

    /** Promise 10, "FULL: it would have more than 300 bytes.": 300 and 301 that end with a ROW, SET or APART. */
    private static void thingFullByKind() {
        String closers = "]}>";
        for (int kind = 4; kind <= 6; kind++) {
            // 11 has 295 bytes, 13 with an ATOM 298, 15 one more
            ShapeHouse x = readyHouse(1, 0, 0, 2, 0, 0, 2, 1, 1, 2, 2, 2, 2, 3, 3, 2, 4, 4, 2, 5, 5, 2, 6, 5, 2, 7, 1, 7, 8, 24, 7, 9, 24,
                7, 10, 24, 0, 1, 0, 2, 12, 11, kind, 13, 0, 7, 13, 33);
            due("300", x.thing(14, 1, 0), 300);
            due("its last", x.out(299), closers.charAt(kind - 4));
            x.put(14, kind, 15, 0);
            due("ready", x.ready(), 0);
            due("301", x.thing(14, 1, 0), FULL);
            due("OUT is the one of 300", x.state(2), 300);
        }
    }

    /** Promise 10, "FULL: it would have more than 300 bytes.": an ARRANGED whose letters still find room, and one whose do not. */
    private static void thingFullOfLetters() {
        // 7 has 286 bytes, each CUT one more; a pair with nine letters and signs has 11 more than its first
        ShapeHouse x = readyHouse(1, 0, 0, 2, 0, 0, 2, 1, 1, 2, 2, 2, 2, 3, 3, 2, 4, 4, 2, 5, 5, 2, 6, 5, 8, 8, 0, 7, 7, 24, 7, 9, 24,
            7, 10, 24, 7, 11, 24, 2, 11, 8, 2, 12, 8, 2, 14, 8);
        due("300", x.thing(13, 8, 0), 300);
        due("its last letter", x.out(298), 'h');
        due("301", x.thing(14, 8, 0), FULL);
        due("letters at 302", x.thing(15, 16, 0), FULL);
        due("OUT is the one of 300", x.out(299), ')');
    }

    /** Promise 10, "FULL: it would have more than 300 bytes.": pairs within pairs, 90 deep with 278 bytes, and 318 bytes. */
    private static void thingFullDeep() {
        // twelve pairs with EMPTY around each ATOM and its pair: 40 bytes more for each SIZE
        ShapeHouse x = house(1, 0, 0, 0, 1, 0);
        for (int i = 2; i < 14; i++) {
            x.shape(2, i + 1, 0);
        }
        x.shape(3, 0, 15);
        x.shape(2, 2, 1);
        due("ready", x.ready(), 0);
        for (int size = 0; size <= 24; size++) {
            due("size " + size, x.thing(2, size, 0), size <= 6 ? 38 + 40 * size : FULL);
        }
        due("again", x.again(), 278);
        due("its number", x.read(2), 0);
        due("its size", x.found(1), 6);
    }

    /** Promise 10, "how many bytes.": of a ROW of 24 THINGS of twelve bytes each. */
    private static void thingLong() {
        ShapeHouse x = readyHouse(1, 0, 0, 2, 0, 0, 7, 1, 24, 7, 2, 24, 7, 3, 24, 7, 4, 24, 7, 5, 24, 0, 1, 0, 2, 6, 7, 4, 8, 0);
        due("290", x.thing(9, 24, 0), 290);
        due("OUT", told(x), "[" + "(!!!!!(..)a)".repeat(24) + "]");
        due("again", x.again(), 290);
        due("its number", x.read(9), 0);
    }

    // ---- reading

    /** Promise 11, "Twenty bytes come behind the tape": behind what is there, which stays. */
    private static void feedBehind() {
        ShapeHouse x = readyHouse(8, 8, 0, 4, 0, 0);
        write(x, "[=habcde");
        due("28", x.feed(0x66673d68, 0x67666564, 0x6362615d, 0x5d5d5d5d, 0x5d5d5d5d), 28);
        due("trim", x.trim(20), 20);
        due("all in their order", x.read(1) >= 0 ? 1 : 0, 1);
        due("bytes", x.found(2), 20);
        due("size", x.found(1), 16);
    }

    /** Promise 11, "the highest of each number first": each of the twenty has its place, whatever bits it has. */
    private static void feedOrder() {
        for (int at = 0; at < 20; at++) {
            for (int c : new int[] {0, 1, 127, 128, 255}) {
                ShapeHouse x = readyHouse(0, 9, 0, 4, 0, 0);
                int[] w = {0x5b616161, 0x61616161, 0x61616161, 0x61616161, 0x61616161};
                int shift = 24 - at % 4 * 8;
                w[at / 4] = w[at / 4] & ~(255 << shift) | c << shift;
                due("feed", x.feed(w[0], w[1], w[2], w[3], w[4]), 20);
                due("the one that is not an a", x.read(1), -100 - at);
            }
        }
        ShapeHouse x = readyHouse(0, 9, 0, 4, 0, 0);
        x.feed(0x5b616161, 0x61616161, 0x61616161, 0x61616161, 0x6161615d);
        due("all are there", x.read(1), -100);
        due("it is only too large", x.found(0), 4);
    }

    /** Promise 11, "how many it has. FULL.": from 0 to 300; with 280 there is room, with 281 there is none. */
    private static void feedFull() {
        ShapeHouse x = new ShapeHouse();
        for (int i = 1; i <= 15; i++) {
            due("feed", x.feed(i, i, i, i, i), 20 * i);
        }
        due("300", x.feed(0, 0, 0, 0, 0), FULL);
        for (int length = 299; length > 280; length--) {
            due("trim", x.trim(length), length);
            due("no room", x.feed(0, 0, 0, 0, 0), FULL);
            due("as it was", x.state(1), length);
        }
        due("trim", x.trim(280), 280);
        due("room", x.feed(0, 0, 0, 0, 0), 300);
        due("300", x.feed(0, 0, 0, 0, 0), FULL);
    }

    /** Promise 12, "The tape keeps its first n bytes: n. BAD.": none, all, one more than all, one less than none. */
    private static void trimEdges() {
        ShapeHouse x = readyHouse(0, 9, 0, 4, 0, 0);
        due("none of none", x.trim(0), 0);
        due("one of none", x.trim(1), BAD);
        due("-1 of none", x.trim(-1), BAD);
        write(x, "[" + "a".repeat(299));
        due("all", x.trim(300), 300);
        due("more than all", x.trim(301), BAD);
        due("-1", x.trim(-1), BAD);
        for (int far : FAR) {
            due("far", x.trim(far), far == 256 ? 256 : BAD);
        }
        due("256", x.state(1), 256);
        due("more than there is", x.trim(257), BAD);
        due("one less", x.trim(255), 255);
        due("the first ones are kept", x.read(1), -355);
        write(x, "[a");
        due("one", x.trim(1), 1);
        due("it is the first", x.read(1), -101);
        write(x, "[a");
        due("none", x.trim(0), 0);
        due("none", x.read(1), -100);
    }

    /** Promise 13, "The tape becomes OUT: how many bytes.": from none to 300; what was on the tape is gone, OUT stays. */
    private static void againEdges() {
        ShapeHouse x = house(1, 0, 0, 2, 0, 0, 2, 1, 1, 2, 2, 2, 2, 3, 3, 2, 4, 4, 2, 5, 5, 2, 6, 5, 2, 7, 2, 7, 8, 24, 7, 9, 24);
        write(x, "(..)");
        due("no OUT", x.again(), 0);
        due("the tape is empty", x.state(1), 0);
        x.ready();
        due("300 bytes", x.thing(10, 0, 0), 300);
        due("the tape is as it was", x.state(1), 0);
        due("again", x.again(), 300);
        due("the tape has them", x.state(1), 300);
        due("no room behind them", x.feed(0, 0, 0, 0, 0), FULL);
        due("read", x.read(10), 0);
        due("OUT stays", x.state(2), 300);
        due("one byte", x.thing(0, 0, 0), 1);
        write(x, "(..)(..)(..)");
        due("again", x.again(), 1);
        due("nothing else is there", x.read(0), 0);
        due("and once more", x.again(), 1);
        due("it can be trimmed", x.trim(0), 0);
        due("OUT stays", x.out(0), '.');
    }

    /** Promise 14, "The NUMBER of the THING of a SHAPE that is written on the tape": 0 to LIMIT - 1; "MANY: its NUMBER is": LIMIT. */
    private static void readNumbers() {
        ShapeHouse x = ShapesEdgesTest.limits();
        due("the first", x.thing(13, 15, 0) > 0 ? 1 : 0, 1);
        String first = told(x);
        due("the last", x.thing(13, 15, LIMIT - 1) > 0 ? 1 : 0, 1);
        String last = told(x);
        x = ShapesEdgesTest.limits();
        dueRead(x, 13, first, 0, 0, 15);
        dueRead(x, 13, last, LIMIT - 1, 0, 15);
        dueRead(x, 14, "1" + last, LIMIT - 1, 0, 15);
        dueRead(x, 14, "2" + first, MANY, 0, 15);
        dueRead(x, 14, "2" + last, MANY, 0, 15);
    }

    /** Promise 14, "or that of a THING of a SET or APART in it (without FAULTS 1, 2, 4)": though the SET's own is none. */
    private static void readManyWithin() {
        ShapeHouse x = ShapesEdgesTest.limits();
        x.put(15, 5, 14, 0);
        due("ready", x.ready(), 0);
        due("the first", x.thing(13, 15, 0) > 0 ? 1 : 0, 1);
        String first = told(x);
        dueRead(x, 15, "{1" + first + "}", 0, 0, 15);
        dueRead(x, 15, "{2" + first + "}", MANY, 0, 15);
        dueFault(x, 15, "{2" + first, 1, 2 + first.length());
    }

    /** Promise 14, "-100 less the place of its FAULT": from place 0 to place 300. */
    private static void readPlaces() {
        ShapeHouse x = readyHouse(2, 0, 0);
        for (int place = 0; place <= 300; place += 25) {
            dueFault(x, 0, "(".repeat(place), 1, place);
            if (place < 300) {
                dueFault(x, 0, "(".repeat(place) + ")", 1, place);
            }
        }
    }

    /** Promise 14, "BAD; NO.": the SHAPES there are, and those next to them, of a grammar that is READY. */
    private static void readOfShape() {
        ShapeHouse x = readyHouse(0, 1, 0, 8, 1, 0, 1, 0, 0);
        dueOfShape("read", 3, -100, s -> x.read(s));
    }

    /** Promise 15, "Of what read() found latest, if that was not refused": the later of two; a refused one finds nothing. */
    private static void foundLatest() {
        ShapeHouse x = readyHouse(0, 3, 0, 1, 0, 0);
        dueRead(x, 0, "a", 0, 0, 3);
        dueRead(x, 1, ".", 0, 0, 0);
        dueRead(x, 0, "ab", -101, 1, NONE);
        dueRead(x, 0, "a", 0, 0, 3);
        write(x, ".....");
        due("BAD", x.read(2), BAD);
        dueFound(x, 0, 3, 1);
        x.shape(1, 0, 0);
        write(x, ".....");
        due("NO", x.read(0), NO);
        dueFound(x, 0, 3, 1);
    }

    private static void dueFound(ShapeHouse x, long fault, long size, long bytes) {
        due("fault", x.found(0), fault);
        due("size", x.found(1), size);
        due("bytes", x.found(2), bytes);
    }

    /** Promise 15, "what 0 its FAULT (0 without one)": 0 to 4. */
    private static void foundFaults() {
        ShapeHouse x = readyHouse(0, 1, 0, 6, 0, 0, 7, 1, 2 * 33);
        dueRead(x, 1, "<a>", 0, 0, 1);
        dueRead(x, 1, "<b>", -101, 1, NONE);
        dueRead(x, 2, "!<a>", -100, 2, NONE);
        dueRead(x, 1, "<aa>", -102, 3, 2);
        dueRead(x, 1, "<" + "a".repeat(25) + ">", -100, 4, NONE);
        dueRead(x, 1, "<>", 0, 0, 0);
    }

    /** Promise 15, "1 the SIZE of the THING (with FAULT 1, 2, 4: NONE)": 0 and 24; with FAULT 3 and with MANY it is told. */
    private static void foundSizes() {
        ShapeHouse x = readyHouse(0, 1, 0, 4, 0, 0, 6, 0, 0, 7, 1, 0);
        dueRead(x, 1, "[]", 0, 0, 0);
        dueRead(x, 1, "[" + "a".repeat(24) + "]", 0, 0, 24);
        dueRead(x, 1, "[" + "a".repeat(25) + "]", -100, 4, NONE);
        dueRead(x, 2, "<" + "a".repeat(24) + ">", -102, 3, 24);
        dueRead(x, 3, "![a]", -100, 2, NONE);
        dueRead(x, 3, "![a", -103, 1, NONE);
        ShapeHouse y = ShapesEdgesTest.limits();
        y.thing(13, 15, 0);
        dueRead(y, 14, "2" + told(y), MANY, 0, 15);
    }

    /** Promise 15, "2 how many bytes it had.": from none to 300, with whatever FAULT. */
    private static void foundBytes() {
        ShapeHouse x = readyHouse(0, 9, 0, 4, 0, 0);
        due("nothing", x.read(1), -100);
        dueFound(x, 1, NONE, 0);
        dueFault(x, 1, "[", 1, 1);
        dueFault(x, 1, "[" + "a".repeat(299), 1, 300);
        dueFault(x, 1, "[" + "a".repeat(298) + "]", 4, 0);
        dueFault(x, 1, "b" + "a".repeat(298) + "]", 1, 0);
    }

    /** Promise 15, "BAD; NONE: nothing was read.": what -1 and 3; ahead of the first read(), and behind refused ones. */
    private static void foundNothing() {
        ShapeHouse x = house(0, 1, 0);
        for (int what = 0; what <= 2; what++) {
            due("nothing was read", x.found(what), NONE);
        }
        due("-1", x.found(-1), BAD);
        due("3", x.found(3), BAD);
        due("NO", x.read(0), NO);
        due("BAD", x.read(1), BAD);
        for (int what = 0; what <= 2; what++) {
            due("nothing was read", x.found(what), NONE);
        }
        x.ready();
        due("an empty tape is read, too", x.read(0), -100);
        due("its fault", x.found(0), 1);
        due("-1", x.found(-1), BAD);
        due("3", x.found(3), BAD);
        for (int far : FAR) {
            due("far", x.found(far), BAD);
        }
    }

    /** Promise 16, "Byte i of OUT; NONE.": the first, the last, and those next to them; another OUT, another end. */
    private static void outEdges() {
        ShapeHouse x = readyHouse(8, 8, 0, 0, 1, 25);
        due("no OUT", x.out(0), NONE);
        due("no OUT", x.out(-1), NONE);
        due("=hgfedcba", x.thing(0, 8, 40319), 9);
        due("the first", x.out(0), '=');
        due("the second", x.out(1), 'h');
        due("the last", x.out(8), 'a');
        due("behind the last", x.out(9), NONE);
        due("ahead of the first", x.out(-1), NONE);
        for (int far : FAR) {
            due("far", x.out(far), NONE);
        }
        due("z", x.thing(1, 1, 0), 1);
        due("the first", x.out(0), 'z');
        due("behind the last", x.out(1), NONE);
        due("not what was there", x.out(8), NONE);
    }

    /** Promise 17, "How many: 0 SHAPES": 0 to 16. */
    private static void stateShapes() {
        ShapeHouse x = new ShapeHouse();
        for (int i = 0; i < 16; i++) {
            due("shapes", x.state(0), i);
            x.shape(1, 0, 0);
        }
        x.shape(1, 0, 0);
        due("shapes", x.state(0), 16);
        x.put(3, 0, 1, 0);
        due("shapes", x.state(0), 16);
    }

    /** Promise 17, "1 bytes of the tape, 2 bytes of OUT": each by itself, 0 to 300. */
    private static void stateBytes() {
        ShapeHouse x = house(1, 0, 0, 2, 0, 0, 2, 1, 1, 2, 2, 2, 2, 3, 3, 2, 4, 4, 2, 5, 5, 2, 6, 5, 2, 7, 2, 7, 8, 24, 7, 9, 24);
        x.ready();
        dueBytes(x, 0, 0);
        x.feed(1, 2, 3, 4, 5);
        dueBytes(x, 20, 0);
        x.thing(10, 0, 0);
        dueBytes(x, 20, 300);
        x.again();
        dueBytes(x, 300, 300);
        x.thing(0, 0, 0);
        dueBytes(x, 300, 1);
        x.trim(7);
        dueBytes(x, 7, 1);
        x.read(0);
        dueBytes(x, 0, 1);
    }

    private static void dueBytes(ShapeHouse x, int tape, int out) {
        due("tape", x.state(1), tape);
        due("OUT", x.state(2), out);
    }

    /** Promise 17, "3 changes that are kept": 0 to 8. */
    private static void stateKept() {
        ShapeHouse x = new ShapeHouse();
        due("none", x.state(3), 0);
        for (int i = 1; i <= 12; i++) {
            if (i % 3 == 0) {
                x.put(0, 0, 1, i);
            } else {
                x.shape(1, 0, 0);
            }
            due("kept", x.state(3), Math.min(i, 8));
        }
        x.ready();
        due("no change", x.state(3), 8);
        x.undo();
        due("kept", x.state(3), 7);
    }

    /** Promise 17, "4 whether the grammar was found READY (1, 0).": by the latest ready() behind the latest change. */
    private static void stateReady() {
        ShapeHouse x = house(0, 1, 0);
        due("not asked", x.state(4), 0);
        x.ready();
        due("found so", x.state(4), 1);
        x.put(0, 7, 0, 24);
        due("changed", x.state(4), 0);
        x.ready();
        due("found not so", x.state(4), 0);
        x.undo();
        due("changed", x.state(4), 0);
        x.ready();
        due("found so", x.state(4), 1);
    }

    /** Promise 17, "BAD.": what -1 and 5. */
    private static void stateBad() {
        ShapeHouse x = readyHouse(0, 1, 0);
        due("what 0", x.state(0), 1);
        due("what 4", x.state(4), 1);
        due("what -1", x.state(-1), BAD);
        due("what 5", x.state(5), BAD);
        for (int far : FAR) {
            due("far", x.state(far), BAD);
        }
    }
}
