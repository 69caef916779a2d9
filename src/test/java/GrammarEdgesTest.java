/** The edges that the terms name in 2: READY and the FAULTS of a grammar. */
public final class GrammarEdgesTest extends Kit {
    public static void main(String[] args) {
        runAll(GrammarEdgesTest.class);
    }

    // ---- what ends READY

    private static void dueReady(ShapeHouse x, boolean ready) {
        due("found ready", x.state(4), ready ? 1 : 0);
        due("count", x.count(0, 1), ready ? 1 : NO);
    }

    /** Terms 2, "READY is a grammar that is found so by ready()": not before, though it has no FAULT. */
    private static void foundByReady() {
        due("a new house", new ShapeHouse().state(4), 0);
        ShapeHouse x = house(0, 1, 0);
        dueReady(x, false);
        due("ready", x.ready(), 0);
        dueReady(x, true);
        due("ready once more", x.ready(), 0);
        dueReady(x, true);
    }

    /** Terms 2, "until a SHAPE comes or changes": one that comes. */
    private static void untilShapeComes() {
        ShapeHouse x = readyHouse(0, 1, 0);
        x.shape(1, 0, 0);
        dueReady(x, false);
    }

    /** Terms 2, "until a SHAPE comes or changes": one that changes, to the same numbers, too. */
    private static void untilShapeChanges() {
        ShapeHouse x = readyHouse(0, 1, 0, 1, 0, 0);
        x.put(1, 0, 1, 5);
        dueReady(x, false);
        due("ready", x.ready(), 0);
        dueReady(x, true);
        x.put(1, 0, 1, 5);
        dueReady(x, false);
    }

    /** Terms 2, "(by undo(), too)": of a shape() and of a put(), to what was found READY ahead of it, too. */
    private static void untilUndo() {
        ShapeHouse x = readyHouse(0, 1, 0);
        x.shape(1, 0, 0);
        due("ready", x.ready(), 0);
        due("undo a shape", x.undo(), 1);
        dueReady(x, false);
        due("ready", x.ready(), 0);
        x.put(0, 0, 1, 1);
        due("ready", x.ready(), 0);
        due("undo a put", x.undo(), 1);
        dueReady(x, false);
        due("ready", x.ready(), 0);
        dueReady(x, true);
        due("undo the first", x.undo(), 0);
        due("found ready", x.state(4), 0);
    }

    /** Terms 2, "until a SHAPE comes or changes": what is refused, and what only asks, does not end it. */
    private static void notByOthers() {
        ShapeHouse x = readyHouse(0, 1, 0);
        x.shape(0, 1, 26);
        x.put(0, 0, 10, 0);
        x.put(1, 0, 1, 0);
        x.about(0, 0);
        x.upTo(0, 24);
        x.parts(0, 0, 24);
        x.thing(0, 1, 0);
        x.feed(1, 2, 3, 4, 5);
        x.trim(3);
        x.again();
        x.read(0);
        x.read(1);
        x.found(0);
        dueReady(x, true);
        for (int i = 1; i < 16; i++) {
            x.shape(1, 0, 0);
        }
        x.ready();
        due("the 17th", x.shape(1, 0, 0), FULL);
        dueReady(x, true);
        x = new ShapeHouse();
        x.ready();
        due("none is kept", x.undo(), NO);
        due("found ready", x.state(4), 1);
    }

    /** Terms 2, "READY is a grammar that is found so by ready()": what was counted ahead of a change is counted anew. */
    private static void countedAnew() {
        ShapeHouse x = readyHouse(0, 1, 0, 4, 0, 0, 5, 0, 0, 6, 0, 0, 2, 1, 2);
        due("pairs", x.count(4, 24), 25);
        x.put(0, 0, 2, 0);
        due("ready", x.ready(), 0);
        due("pairs of SIZE 2 each", x.count(4, 24), 13);
        due("pairs of SIZE 2 each", x.count(4, 23), 0);
        due("rows", x.count(1, 1), 0);
        due("sets", x.count(2, 1), 0);
        due("aparts", x.count(3, 1), 0);
        due("aparts", x.count(3, 2), 1);
        due("undo", x.undo(), 5);
        due("ready", x.ready(), 0);
        due("pairs again", x.count(4, 24), 25);
        due("aparts again", x.count(3, 2), 0);
    }

    // ---- FAULTS

    /** Terms 2, "FAULTS of it, the first kind that there is": 1 ahead of 2 ahead of 3, whichever SHAPE has them. */
    private static void firstKind() {
        due("3, 2 and 1", house(3, 0, 0, 1, 0, 0, 4, 1, 0, 4, 4, 0).ready(), 16 + 3);
        due("3 and 2", house(3, 0, 0, 1, 0, 0, 4, 1, 0).ready(), 32 + 2);
        due("2 and 1", house(1, 0, 0, 4, 0, 0, 7, 3, 24).ready(), 16 + 2);
        due("3 and 1", house(3, 0, 0, 7, 2, 24).ready(), 16 + 1);
        due("3 alone", house(3, 0, 0, 1, 0, 0).ready(), 48);
        due("1 by itself and 2", house(4, 0, 0, 4, 2, 0).ready(), 16 + 1);
    }

    /** Terms 2, "1 a SHAPE with a part that there is not.": the last SHAPE there is as a part, and the one behind it. */
    private static void missingPart() {
        for (int kind = 2; kind <= 7; kind++) {
            due("the last there is", house(0, 1, 0, kind, 2, 0, 0, 1, 1).ready(), 0);
            due("the one behind it", house(0, 1, 0, kind, 3, 0, 0, 1, 1).ready(), 17);
            due("the last of all", house(0, 1, 0, kind, 15, 0, 0, 1, 1).ready(), 17);
        }
        for (int kind = 2; kind <= 3; kind++) {
            due("b, the last there is", house(0, 1, 0, kind, 0, 2, 0, 1, 1).ready(), 0);
            due("b, the one behind it", house(0, 1, 0, kind, 0, 3, 0, 1, 1).ready(), 17);
            due("b, the last of all", house(0, 1, 0, kind, 0, 15, 0, 1, 1).ready(), 17);
        }
    }

    /** Terms 2, "1 a SHAPE with a part that there is not.": numbers that are no SHAPES are no parts. */
    private static void noParts() {
        due("ATOM", house(0, 9, 25).ready(), 0);
        due("EMPTY", house(1, 0, 0).ready(), 0);
        due("ARRANGED", house(8, 8, 0).ready(), 0);
        due("CUT", house(0, 9, 25, 7, 0, 24 * 33).ready(), 0);
    }

    /** Terms 2, "1 a SHAPE with a part that there is not.": a part that came and was taken back. */
    private static void partTakenBack() {
        ShapeHouse x = house(4, 1, 0);
        due("not yet", x.ready(), 16);
        x.shape(0, 1, 0);
        due("now", x.ready(), 0);
        x.undo();
        due("no more", x.ready(), 16);
        due("found ready", x.state(4), 0);
    }

    /** Terms 2, "FAULTS of it": a SHAPE that was taken back has none any more. */
    private static void faultTakenBack() {
        int[][] faulty = {{4, 9, 0}, {2, 0, 9}, {4, 0, 0}, {5, 0, 0}, {6, 0, 0}, {7, 1, 24}, {3, 0, 1}};
        for (int[] s : faulty) {
            ShapeHouse x = house(1, 0, 0, s[0], s[1], s[2]);
            due("a FAULT", x.ready() % 16, 1);
            due("undo", x.undo(), 1);
            due("none", x.ready(), 0);
        }
    }

    /** Terms 2, "2 a ROW, SET or APART of a SHAPE that can be of SIZE 0.": no other KIND has this FAULT. */
    private static void partOfSizeZero() {
        for (int kind = 2; kind <= 7; kind++) {
            boolean bag = kind >= 4 && kind <= 6;
            due("of EMPTY", house(1, 0, 0, kind, 0, 0).ready(), bag ? 33 : 0);
            due("of ATOM of SIZE 1", house(0, 1, 0, kind, 0, 0).ready(), 0);
        }
    }

    /** A ROW, a SET and an APART of a SHAPE tell by FAULT 2 whether it can be of SIZE 0. */
    private static void dueCan(boolean can, int... triples) {
        int[] more = java.util.Arrays.copyOf(triples, triples.length + 3);
        int last = triples.length / 3;
        for (int kind = 4; kind <= 6; kind++) {
            more[triples.length] = kind;
            more[triples.length + 1] = last - 1;
            due(java.util.Arrays.toString(more), house(more).ready(), can ? 32 + last : 0);
        }
    }

    /** Terms 2, "A SHAPE CAN BE OF SIZE 0", "EMPTY, ROW, SET, APART"; ATOM and ARRANGED, of SIZE 1 at least, can not. */
    private static void emptiesByKind() {
        dueCan(true, 1, 0, 0);
        dueCan(true, 0, 1, 0, 4, 0, 0);
        dueCan(true, 0, 1, 0, 5, 0, 0);
        dueCan(true, 0, 1, 0, 6, 0, 0);
        dueCan(false, 0, 1, 0);
        dueCan(false, 0, 9, 0);
        dueCan(false, 8, 1, 0);
        dueCan(false, 8, 8, 0);
    }

    /** Terms 2, "BOTH, if both can": none, one, the other, both. */
    private static void emptiesOfBoth() {
        dueCan(false, 1, 0, 0, 0, 1, 0, 2, 1, 1);
        dueCan(false, 1, 0, 0, 0, 1, 0, 2, 0, 1);
        dueCan(false, 1, 0, 0, 0, 1, 0, 2, 1, 0);
        dueCan(true, 1, 0, 0, 0, 1, 0, 2, 0, 0);
    }

    /** Terms 2, "EITHER, if one can": none, one, the other, both. */
    private static void emptiesOfEither() {
        dueCan(false, 1, 0, 0, 0, 1, 0, 3, 1, 1);
        dueCan(true, 1, 0, 0, 0, 1, 0, 3, 0, 1);
        dueCan(true, 1, 0, 0, 0, 1, 0, 3, 1, 0);
        dueCan(true, 1, 0, 0, 0, 1, 0, 3, 0, 0);
    }

    /** Terms 2, "CUT from low 0, if a can.": from low 1 it can not, whatever high is. */
    private static void emptiesOfCut() {
        dueCan(true, 1, 0, 0, 7, 0, 0);
        dueCan(true, 1, 0, 0, 7, 0, 24);
        dueCan(false, 1, 0, 0, 7, 0, 32 + 1);
        dueCan(false, 1, 0, 0, 7, 0, 32 + 24);
        dueCan(false, 1, 0, 0, 7, 0, 24 * 33);
        dueCan(false, 0, 1, 0, 7, 0, 0);
        dueCan(false, 0, 1, 0, 7, 0, 24);
    }

    /** Terms 2, "by the least sets for which this holds": a SHAPE does not make itself able to be of SIZE 0. */
    private static void leastSets() {
        due("BOTH of itself", house(2, 0, 0, 4, 0, 0).ready(), 0);
        due("EITHER of itself", house(3, 0, 0, 4, 0, 0).ready(), 48);
        due("CUT of itself", house(7, 0, 24, 5, 0, 0).ready(), 48);
        due("two of one another", house(7, 1, 24, 3, 0, 0, 6, 1, 0).ready(), 48);
        due("BOTHS of one another", house(2, 1, 1, 2, 0, 0, 6, 1, 0).ready(), 0);
        due("BOTHS, one with EMPTY", house(2, 1, 3, 2, 0, 3, 6, 1, 0, 1, 0, 0).ready(), 48);
    }

    /** Terms 2, "by the least sets for which this holds": by way of all SHAPES, up the numbers and down. */
    private static void longestChains() {
        ShapeHouse up = new ShapeHouse(), down = new ShapeHouse();
        down.shape(1, 0, 0);
        for (int i = 0; i < 14; i++) {
            up.shape(7, i + 1, 24);
            down.shape(7, i, 24);
        }
        up.shape(1, 0, 0);
        up.shape(6, 0, 0);
        down.shape(6, 14, 0);
        due("up", up.ready(), 32 + 15);
        due("down", down.ready(), 32 + 15);
        up.put(14, 0, 1, 0);
        down.put(0, 0, 1, 0);
        due("up to an ATOM", up.ready(), 0);
        due("down to an ATOM", down.ready(), 0);
    }

    /** Terms 2, "3 a RING: a SHAPE that NEEDS itself.": by one step; nothing needs itself without one. */
    private static void shortestRings() {
        due("EITHER by a", house(0, 1, 0, 3, 1, 0).ready(), 49);
        due("EITHER by b", house(0, 1, 0, 3, 0, 1).ready(), 49);
        due("CUT", house(7, 0, 33).ready(), 48);
        due("ATOM 1 is no SHAPE 1", house(1, 0, 0, 0, 1, 1).ready(), 0);
        due("ARRANGED 1 is no SHAPE 1", house(1, 0, 0, 8, 1, 0).ready(), 0);
        due("EMPTY 0 is no SHAPE 0", house(1, 0, 0).ready(), 0);
    }

    /** Terms 2, "BOTH a, if b can be of SIZE 0, and b, if a can": all four cases, for each part. */
    private static void needsOfBoth() {
        due("a, b can", house(1, 0, 0, 2, 1, 0).ready(), 49);
        due("a, b can not", house(0, 1, 0, 2, 1, 0).ready(), 0);
        due("b, a can", house(1, 0, 0, 2, 0, 1).ready(), 49);
        due("b, a can not", house(0, 1, 0, 2, 0, 1).ready(), 0);
        due("a and b, neither can", house(2, 0, 0).ready(), 0);
        // 1 and 2 need one another by way of a pair with a ROW, which can be of SIZE 0
        due("a, b is a ROW", house(0, 1, 0, 2, 2, 3, 3, 0, 1, 4, 0, 0).ready(), 49);
        due("a, b is a ROW cut", house(0, 1, 0, 2, 2, 4, 3, 0, 1, 4, 0, 0, 7, 3, 56).ready(), 0);
    }

    /** Terms 2, "EITHER a and b; ROW, SET, APART, CUT a.": each as a step of a RING of two. */
    private static void needsByKind() {
        due("EITHER a", house(3, 1, 2, 7, 0, 24, 0, 1, 0).ready(), 48);
        due("EITHER b", house(3, 2, 1, 7, 0, 24, 0, 1, 0).ready(), 48);
        for (int kind = 4; kind <= 6; kind++) {
            due("of a CUT of it from 1", house(kind, 1, 0, 7, 0, 56).ready(), 48);
            due("of a pair with it", house(kind, 1, 0, 2, 2, 0, 0, 1, 0).ready(), 0);
        }
        due("CUT", house(7, 1, 24, 7, 0, 24).ready(), 48);
    }

    /** Terms 2, "IT NEEDS (also by several of these)": by two, by all sixteen, and not from one that only leads to a RING. */
    private static void longRings() {
        due("by two", house(0, 1, 0, 3, 2, 0, 3, 0, 1).ready(), 49);
        ShapeHouse up = new ShapeHouse(), down = new ShapeHouse();
        for (int i = 0; i < 16; i++) {
            up.shape(7, (i + 1) % 16, 33);
            down.shape(7, (i + 15) % 16, 33);
        }
        due("by sixteen, up", up.ready(), 48);
        due("by sixteen, down", down.ready(), 48);
        up.put(7, 0, 1, 0);
        down.put(7, 0, 1, 0);
        due("broken", up.ready(), 0);
        due("broken", down.ready(), 0);
        due("one that leads to a RING", house(7, 1, 33, 7, 2, 33, 7, 1, 33).ready(), 49);
        due("one that a RING leads to", house(0, 1, 0, 3, 0, 2, 3, 1, 0).ready(), 49);
    }
}
