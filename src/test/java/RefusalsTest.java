/**
 * Terms: a refused call "changes nothing (but the tape, where told)". Each test makes a house twice, has one of them refuse
 * a call, and then looks at all that both of them tell.
 */
public final class RefusalsTest extends Kit {
    public static void main(String[] args) {
        runAll(RefusalsTest.class);
    }

    private interface Scene {
        ShapeHouse make();
    }

    private interface Call {
        long on(ShapeHouse x);
    }

    // ---- houses to be asked

    /** Four SHAPES, six changes, READY, an OUT, a writing on the tape, and something that was read. */
    private static ShapeHouse busy() {
        ShapeHouse x = house(0, 1, 0, 0, 1, 1, 3, 0, 1, 4, 2, 0);
        x.put(0, 0, 2, 5);
        x.put(0, 0, 1, 0);
        x.ready();
        x.thing(3, 5, 19);
        write(x, "[1a]]");
        due("one behind the whole", x.read(3), -104);
        write(x, "[2b1a2b]");
        return x;
    }

    /** Likewise, but changed since ready(). */
    private static ShapeHouse changed() {
        ShapeHouse x = busy();
        x.put(3, 4, 2, 0);
        return x;
    }

    /** Sixteen SHAPES, eight changes, READY, 300 bytes of OUT and 300 on the tape. */
    private static ShapeHouse crowded() {
        ShapeHouse x = house(1, 0, 0, 2, 0, 0, 2, 1, 1, 2, 2, 2, 2, 3, 3, 2, 4, 4, 2, 5, 5, 2, 6, 5, 2, 7, 2, 7, 8, 24, 7, 9, 24,
            7, 10, 24, 0, 9, 0, 4, 12, 0, 0, 1, 1, 4, 14, 0);
        x.ready();
        due("300 bytes", x.thing(10, 0, 0), 300);
        write(x, "[" + "a".repeat(298) + "]");
        return x;
    }

    /** Eight SHAPES, READY, of which no change is kept, as all that were have been taken back. */
    private static ShapeHouse nothingKept() {
        ShapeHouse x = house(0, 1, 0, 0, 1, 1, 3, 0, 1, 4, 2, 0, 1, 0, 0, 1, 0, 0, 1, 0, 0, 1, 0, 0, 1, 0, 0, 1, 0, 0, 1, 0, 0, 1, 0, 0,
            1, 0, 0, 1, 0, 0, 1, 0, 0, 1, 0, 0);
        for (int left = 7; left >= 0; left--) {
            due("undo", x.undo(), left);
        }
        x.ready();
        x.thing(3, 5, 19);
        write(x, "[2b1a2b]");
        return x;
    }

    // ---- what they tell

    /** All that a house tells; it is used up by that. A ROW, SHAPE 3 or 13, takes what is on the tape. */
    private static String look(ShapeHouse x) {
        StringBuilder s = new StringBuilder();
        for (int what = 0; what <= 4; what++) {
            s.append(" state ").append(x.state(what));
        }
        for (int what = 0; what <= 2; what++) {
            s.append(" found ").append(x.found(what));
        }
        s.append(" OUT ").append(told(x));
        long shapes = x.state(0);
        lookAtShapes(x, s, (int) shapes);
        s.append(" ready ").append(x.ready());
        for (int shape = 0; shape < shapes; shape++) {
            s.append(" of 0: ").append(x.count(shape, 0)).append(" in all: ").append(x.upTo(shape, 24));
        }
        s.append(" read ").append(x.read(shapes == 16 ? 13 : 3)).append(" fault ").append(x.found(0));
        for (int i = 0; i <= 8; i++) {
            s.append(" undo ").append(x.undo()).append(" shapes ").append(x.state(0));
            s.append(" a ").append(x.about(0, 1)).append(" b ").append(x.about(0, 2));
        }
        return s.toString();
    }

    private static void lookAtShapes(ShapeHouse x, StringBuilder s, int shapes) {
        for (int shape = 0; shape < shapes; shape++) {
            s.append(" shape ").append(x.about(shape, 0)).append(' ').append(x.about(shape, 1)).append(' ').append(x.about(shape, 2));
        }
        s.append(" behind them ").append(x.about(shapes, 0));
    }

    private static void dueNothingChanged(String what, Scene scene, long want, Call call) {
        ShapeHouse asked = scene.make();
        due(what, call.on(asked), want);
        due("the house behind " + what, look(asked), look(scene.make()));
    }

    /** Likewise, but the tape is used up. */
    private static void dueTapeUsedUp(String what, Scene scene, long want, Call call) {
        ShapeHouse asked = scene.make(), other = scene.make();
        due(what, call.on(asked), want);
        other.trim(0);
        due("the house behind " + what, look(asked), look(other));
    }

    /** Terms, "and changes nothing": the looks tell houses apart that differ in one thing. */
    private static void looksTellApart() {
        Call[] changes = {x -> x.shape(1, 0, 0), x -> x.put(0, 0, 1, 7), x -> x.undo(), x -> x.thing(3, 5, 18), x -> x.trim(7),
            x -> x.again(), x -> x.read(3), x -> x.put(0, 0, 1, 0), x -> x.feed(0, 0, 0, 0, 0)};
        for (int i = 0; i < changes.length; i++) {
            ShapeHouse x = busy();
            changes[i].on(x);
            due("the same behind change " + i, look(x).equals(look(busy())) ? 1 : 0, 0);
        }
        due("the same house", look(busy()), look(busy()));
        due("the same house", look(crowded()), look(crowded()));
    }

    // ---- shapes

    /** Promise 2, "BAD: kind, a, b are not as told", and Terms, "and changes nothing" */
    private static void shapeBad() {
        dueNothingChanged("shape", RefusalsTest::busy, BAD, x -> x.shape(0, 10, 0));
        dueNothingChanged("shape", RefusalsTest::busy, BAD, x -> x.shape(9, 0, 0));
        dueNothingChanged("shape", RefusalsTest::changed, BAD, x -> x.shape(7, 0, 32));
        dueNothingChanged("shape", RefusalsTest::crowded, BAD, x -> x.shape(1, 0, 1));
        dueNothingChanged("shape", ShapeHouse::new, BAD, x -> x.shape(0, 0, 0));
    }

    /** Promise 2, "FULL", and Terms, "and changes nothing" */
    private static void shapeFull() {
        dueNothingChanged("shape", RefusalsTest::crowded, FULL, x -> x.shape(0, 1, 0));
        dueNothingChanged("shape", RefusalsTest::crowded, FULL, x -> x.shape(0, 1, 0) + x.shape(1, 0, 0) - FULL);
    }

    /** Promise 3, "BAD.", and Terms, "and changes nothing" */
    private static void putBad() {
        dueNothingChanged("put", RefusalsTest::busy, BAD, x -> x.put(0, 0, 1, 26));
        dueNothingChanged("put", RefusalsTest::busy, BAD, x -> x.put(4, 0, 1, 0));
        dueNothingChanged("put", RefusalsTest::busy, BAD, x -> x.put(-1, 0, 1, 0));
        dueNothingChanged("put", RefusalsTest::changed, BAD, x -> x.put(3, 9, 0, 0));
        dueNothingChanged("put", RefusalsTest::crowded, BAD, x -> x.put(16, 1, 0, 0));
        dueNothingChanged("put", RefusalsTest::crowded, BAD, x -> x.put(15, 1, 0, 1));
        dueNothingChanged("put", ShapeHouse::new, BAD, x -> x.put(0, 1, 0, 0));
    }

    /** Promise 4, "NO: none is kept.", and Terms, "and changes nothing" */
    private static void undoNo() {
        dueNothingChanged("undo", RefusalsTest::nothingKept, NO, x -> x.undo());
        dueNothingChanged("undo", ShapeHouse::new, NO, x -> x.undo());
    }

    /** Promise 5, "BAD.", and Terms, "and changes nothing" */
    private static void aboutBad() {
        dueNothingChanged("about", RefusalsTest::busy, BAD, x -> x.about(4, 0));
        dueNothingChanged("about", RefusalsTest::busy, BAD, x -> x.about(0, 3));
        dueNothingChanged("about", ShapeHouse::new, BAD, x -> x.about(0, 0));
    }

    // ---- counting

    /** Promise 7, "BAD; NO: the grammar is not READY (here and below).", and Terms, "and changes nothing": count. */
    private static void countRefused() {
        dueNothingChanged("count", RefusalsTest::busy, BAD, x -> x.count(4, 0));
        dueNothingChanged("count", RefusalsTest::busy, BAD, x -> x.count(0, 25));
        dueNothingChanged("count", RefusalsTest::changed, NO, x -> x.count(3, 3));
    }

    /** Promise 8, "BAD; NO.", and Terms, "and changes nothing": upTo. */
    private static void upToRefused() {
        dueNothingChanged("upTo", RefusalsTest::busy, BAD, x -> x.upTo(4, 0));
        dueNothingChanged("upTo", RefusalsTest::busy, BAD, x -> x.upTo(0, -1));
        dueNothingChanged("upTo", RefusalsTest::changed, NO, x -> x.upTo(3, 3));
    }

    /** Promise 9, "BAD; NO.", and Terms, "and changes nothing": parts; and when it answers NONE. */
    private static void partsRefused() {
        dueNothingChanged("parts", RefusalsTest::busy, BAD, x -> x.parts(0, 4, 0));
        dueNothingChanged("parts", RefusalsTest::busy, BAD, x -> x.parts(0, 0, 25));
        dueNothingChanged("parts", RefusalsTest::changed, NO, x -> x.parts(0, 3, 3));
        dueNothingChanged("parts", RefusalsTest::busy, NONE, x -> x.parts(0, 1, 24));
    }

    /** Promise 10, "BAD: shape, size, the number is not 0 .. LIMIT - 1; NO", and Terms, "and changes nothing": OUT stays. */
    private static void thingRefused() {
        dueNothingChanged("thing", RefusalsTest::busy, BAD, x -> x.thing(4, 0, 0));
        dueNothingChanged("thing", RefusalsTest::busy, BAD, x -> x.thing(3, 25, 0));
        dueNothingChanged("thing", RefusalsTest::busy, BAD, x -> x.thing(3, 5, -1));
        dueNothingChanged("thing", RefusalsTest::busy, BAD, x -> x.thing(3, 5, LIMIT));
        dueNothingChanged("thing", RefusalsTest::changed, NO, x -> x.thing(3, 5, 3));
    }

    /** Promise 10, "FULL: it would have more than 300 bytes.", and Terms, "and changes nothing": OUT stays. */
    private static void thingFull() {
        dueNothingChanged("thing", RefusalsTest::crowded, FULL, x -> x.thing(11, 0, 0));
        dueNothingChanged("thing", () -> shortOut(), FULL, x -> x.thing(11, 0, 0));
    }

    private static ShapeHouse shortOut() {
        ShapeHouse x = crowded();
        due("an OUT of four bytes", x.thing(1, 0, 0), 4);
        return x;
    }

    /** Promise 10, "NONE: there are not so many": there is no THING that OUT could become. */
    private static void thingNone() {
        dueNothingChanged("thing", RefusalsTest::busy, NONE, x -> x.thing(3, 5, 32));
        dueNothingChanged("thing", RefusalsTest::busy, NONE, x -> x.thing(0, 0, 0));
        dueNothingChanged("thing", RefusalsTest::crowded, NONE, x -> x.thing(11, 1, 0));
    }

    // ---- reading

    /** Promise 11, "FULL.", and Terms, "and changes nothing": not one of the twenty bytes comes. */
    private static void feedFull() {
        dueNothingChanged("feed", RefusalsTest::crowded, FULL, x -> x.feed(1, 2, 3, 4, 5));
        dueNothingChanged("feed", () -> nearlyFull(), FULL, x -> x.feed(0x61616161, 0x61616161, 0x61616161, 0x61616161, 0x61616161));
    }

    /** A ROW of 281 bytes, 19 below what the tape takes. */
    private static ShapeHouse nearlyFull() {
        ShapeHouse x = crowded();
        write(x, "[" + "a".repeat(279) + "]");
        return x;
    }

    /** Promise 12, "BAD.", and Terms, "and changes nothing": the tape is as it was. */
    private static void trimBad() {
        dueNothingChanged("trim", RefusalsTest::busy, BAD, x -> x.trim(9));
        dueNothingChanged("trim", RefusalsTest::busy, BAD, x -> x.trim(-1));
        dueNothingChanged("trim", RefusalsTest::crowded, BAD, x -> x.trim(301));
        dueNothingChanged("trim", ShapeHouse::new, BAD, x -> x.trim(1));
    }

    /** Promise 14, "BAD; NO.", and Terms, "(but the tape, where told)": what was found stays, the tape does not. */
    private static void readRefused() {
        dueTapeUsedUp("read", RefusalsTest::busy, BAD, x -> x.read(4));
        dueTapeUsedUp("read", RefusalsTest::busy, BAD, x -> x.read(-1));
        dueTapeUsedUp("read", RefusalsTest::changed, BAD, x -> x.read(4));
        dueTapeUsedUp("read", RefusalsTest::changed, NO, x -> x.read(3));
        dueTapeUsedUp("read", RefusalsTest::crowded, BAD, x -> x.read(16));
    }

    /** Promise 15, "BAD", Promise 16, "NONE.", Promise 17, "BAD.", and Terms, "and changes nothing" */
    private static void otherRefusals() {
        dueNothingChanged("found", RefusalsTest::busy, BAD, x -> x.found(3));
        dueNothingChanged("found", ShapeHouse::new, NONE, x -> x.found(0));
        dueNothingChanged("out", RefusalsTest::busy, NONE, x -> x.out(99));
        dueNothingChanged("out", RefusalsTest::busy, NONE, x -> x.out(-1));
        dueNothingChanged("state", RefusalsTest::busy, BAD, x -> x.state(5));
        dueNothingChanged("state", RefusalsTest::changed, BAD, x -> x.state(-1));
    }

    /** Not promised, "Nothing is promised beyond the answers and state changes described above": asking changes nothing. */
    private static void asking() {
        dueNothingChanged("about", RefusalsTest::busy, 4, x -> x.about(3, 0));
        dueNothingChanged("ready", RefusalsTest::busy, 0, x -> x.ready());
        dueNothingChanged("count", RefusalsTest::busy, 32, x -> x.count(3, 5));
        dueNothingChanged("upTo", RefusalsTest::busy, 63, x -> x.upTo(3, 5));
        dueNothingChanged("parts", RefusalsTest::busy, 0, x -> x.parts(0, 3, 5));
        dueNothingChanged("found", RefusalsTest::busy, 1, x -> x.found(0));
        dueNothingChanged("out", RefusalsTest::busy, '[', x -> x.out(0));
        dueNothingChanged("state", RefusalsTest::busy, 8, x -> x.state(1));
    }
}
