import java.util.ArrayList;
import java.util.List;

/** The edges that the terms name in 3: SIZES, THE TAPE, OUT, WRITINGS and their FAULTS. */
public final class WritingEdgesTest extends Kit {
    public static void main(String[] args) {
        runAll(WritingEdgesTest.class);
    }

    // ---- SIZES, THE TAPE, OUT

    /** Terms 3, "SIZES told to the house are 0 .. 24.": 0 and 24 are taken, -1 and 25 are not, by each call that has one. */
    private static void sizes() {
        ShapeHouse x = readyHouse(0, 1, 0, 4, 0, 0);
        for (int size = 0; size <= 24; size += 24) {
            due("count", x.count(1, size), 1);
            due("upTo", x.upTo(1, size), size + 1);
            due("parts", x.parts(1, 1, size), NONE);
            due("thing", x.thing(1, size, 0), size + 2);
        }
        dueNoSize(x, -1);
        dueNoSize(x, 25);
        for (int far : FAR) {
            dueNoSize(x, far);
        }
    }

    private static void dueNoSize(ShapeHouse x, int size) {
        due("count " + size, x.count(1, size), BAD);
        due("upTo " + size, x.upTo(1, size), BAD);
        due("parts " + size, x.parts(1, 1, size), BAD);
        due("thing " + size, x.thing(1, size, 0), BAD);
    }

    /** Terms 3, "THE TAPE takes bytes, 300 at most": fifteen times twenty and no more, and the last of them is read. */
    private static void tapeOf300() {
        ShapeHouse x = readyHouse(0, 9, 0, 4, 0, 0);
        write(x, "[" + "a".repeat(298) + "]");
        due("bytes", x.state(1), 300);
        due("no more", x.feed(0, 0, 0, 0, 0), FULL);
        due("too large, but whole", x.read(1), -100);
        due("too large, but whole", x.found(0), 4);
        due("all were read", x.found(2), 300);
        dueFault(x, 1, "[" + "a".repeat(298) + "b", 1, 299);
        dueFault(x, 1, "[" + "a".repeat(299), 1, 300);
    }

    private static void dueUsedUp(ShapeHouse x, int shape, String text, long want) {
        write(x, text);
        due("read " + text, x.read(shape), want);
        due("the tape is used up", x.state(1), 0);
        if (want != BAD && want != NO) {
            due("nothing is left to read", x.read(shape), -100);
            due("nothing is left to read", x.found(2), 0);
        }
    }

    /** Terms 3, "read() uses it up, whatever it answers.": a NUMBER, each FAULT, MANY, BAD and NO. */
    private static void usedUp() {
        ShapeHouse x = readyHouse(0, 1, 0, 6, 0, 0, 4, 0, 0, 7, 2, 24);
        dueUsedUp(x, 1, "<a>", 0);
        dueUsedUp(x, 1, "<b>", -101);
        dueUsedUp(x, 1, "<aa>", -102);
        dueUsedUp(x, 2, "[" + "a".repeat(25) + "]", -100);
        dueUsedUp(x, 3, "![" + "a".repeat(25) + "]", -100);
        dueUsedUp(x, 4, "<a>", BAD);
        dueUsedUp(manyHouse(), 13, "{" + AT_LIMIT + "}", MANY);
        x.shape(1, 0, 0);
        dueUsedUp(x, 1, "<a>", NO);
        dueUsedUp(new ShapeHouse(), 0, "<a>", BAD);
    }

    /** Terms 3, "OUT has bytes, none at first, 300 at most." */
    private static void outOf300() {
        ShapeHouse x = house(1, 0, 0, 2, 0, 0, 2, 1, 1, 2, 2, 2, 2, 3, 3, 2, 4, 4, 2, 5, 5, 2, 6, 5, 2, 7, 2,
            7, 8, 24, 7, 9, 24, 7, 10, 24);
        due("none at first", x.state(2), 0);
        due("none at first", x.out(0), NONE);
        x.ready();
        due("300", x.thing(10, 0, 0), 300);
        due("300", x.state(2), 300);
        due("the first", x.out(0), '!');
        due("the last", x.out(299), ')');
        due("no more", x.out(300), NONE);
        due("301", x.thing(11, 0, 0), FULL);
    }

    // ---- WRITINGS

    private static final String[] FOUR = {"11a", "12b", "21c", "22d"};

    /** All orders of 0 to 3. */
    private static List<int[]> orders() {
        List<int[]> orders = new ArrayList<>();
        for (int bits = 0; bits < 256; bits++) {
            int[] order = {bits & 3, bits >> 2 & 3, bits >> 4 & 3, bits >> 6};
            if ((1 << order[0] | 1 << order[1] | 1 << order[2] | 1 << order[3]) == 15) {
                orders.add(order);
            }
        }
        due("orders", orders.size(), 24);
        return orders;
    }

    /** Terms 3, "the THINGS of SETS and APARTS in any order": all orders of four THINGS of unlike SIZES. */
    private static void anyOrder() {
        for (int[] o : orders()) {
            ShapeHouse x = readyHouse(0, 1, 0, 0, 2, 1, 0, 3, 2, 0, 4, 3, 3, 0, 1, 3, 2, 3, 3, 4, 5, 5, 6, 0, 6, 6, 0);
            String text = FOUR[o[0]] + FOUR[o[1]] + FOUR[o[2]] + FOUR[o[3]];
            // ahead of 4 + 3 + 2 + 1: 14 without a 4, 4 whose second is not above 2, and 4 + 3 + 1 + 1 + 1
            dueRead(x, 7, "{" + text + "}", 19, 0, 10);
            dueRead(x, 8, "<" + text + ">", 0, 0, 10);
        }
    }

    /** Terms 3, "the THINGS of SETS and APARTS in any order": all orders of four THINGS of one SIZE. */
    private static void anyOrderOfOneSize() {
        for (int[] o : orders()) {
            ShapeHouse x = readyHouse(0, 1, 0, 0, 1, 1, 0, 1, 2, 0, 1, 3, 3, 0, 1, 3, 2, 3, 3, 4, 5, 5, 6, 0, 3, 6, 0, 6, 8, 0);
            String p = FOUR[o[0]], q = FOUR[o[1]], r = FOUR[o[2]], s = FOUR[o[3]];
            // ahead of dcba: 15 without a d, 4 whose second is not above b, and dcaa
            dueRead(x, 7, "{" + p + q + r + s + "}", 20, 0, 4);
            // of four out of five, the one without the fifth comes first, then those that lack d, c, b, a
            dueRead(x, 9, "<1" + p + "1" + q + "1" + r + "1" + s + ">", 0, 0, 4);
            dueRead(x, 9, "<1" + q + "2a1" + r + "1" + s + ">", 4 - o[0], 0, 4);
        }
    }

    /** Terms 3, "the THINGS of SETS and APARTS in any order": of one SIZE, alike ones, and within one another. */
    private static void anyOrderWithin() {
        ShapeHouse x = readyHouse(8, 2, 0, 5, 0, 0, 6, 0, 0, 0, 1, 0, 2, 3, 1, 2, 3, 2, 6, 4, 0, 5, 5, 0);
        dueRead(x, 1, "{=ab=ba}", 1, 0, 4);
        dueRead(x, 1, "{=ba=ab}", 1, 0, 4);
        dueRead(x, 1, "{=ab=ba=ab}", 1, 0, 6);
        dueRead(x, 1, "{=ba=ab=ba}", 2, 0, 6);
        dueRead(x, 2, "<=ab=ba>", 0, 0, 4);
        dueRead(x, 2, "<=ba=ab>", 0, 0, 4);
        // ahead of it: two pairs of SIZE 3, and {=ab=ab} beside {}
        long number = 2;
        dueRead(x, 6, "<(a{})(a{=ab=ba})>", number, 0, 6);
        dueRead(x, 6, "<(a{})(a{=ba=ab})>", number, 0, 6);
        dueRead(x, 6, "<(a{=ab=ba})(a{})>", number, 0, 6);
        dueRead(x, 6, "<(a{=ba=ab})(a{})>", number, 0, 6);
        // ahead of it: ten without a pair of SIZE 5, three with one
        dueRead(x, 7, "{(a<=ab=ba>)(a<=ba=ab>)}", 13, 0, 10);
    }

    /** Terms 3, "A WRITING of a THING of a SHAPE is as told": in a ROW another order is another THING. */
    private static void rowsInOrder() {
        ShapeHouse x = readyHouse(8, 2, 0, 4, 0, 0);
        dueRead(x, 1, "[=ab=ba]", 1, 0, 4);
        dueRead(x, 1, "[=ba=ab]", 2, 0, 4);
    }

    /** Terms 3, "A WRITING of a THING of a SHAPE is as told": parts of SIZE 0 beside a ROW of one and a ROW of none. */
    private static void partsOfSizeZero() {
        ShapeHouse x = readyHouse(1, 0, 0, 3, 0, 0, 0, 1, 0, 4, 2, 0, 2, 0, 1, 2, 3, 4);
        dueRead(x, 5, "([](.1.))", 0, 0, 0);
        dueRead(x, 5, "([](.2.))", 1, 0, 0);
        dueRead(x, 5, "([a](.1.))", 0, 0, 1);
        dueRead(x, 5, "([a](.2.))", 1, 0, 1);
    }

    // ---- FAULT 1

    private static final int[] EACH_KIND = {0, 1, 0, 1, 0, 0, 2, 0, 1, 3, 0, 2, 4, 3, 0, 5, 3, 0, 6, 3, 0, 7, 6, 24, 8, 3, 0, 8, 8, 0,
        8, 1, 0, 0, 9, 25, 4, 11, 0};

    /** Behind what is written only these bytes of all 256 can come. */
    private static void dueNext(int shape, String written, String next) {
        for (int from = 0; from < 256; from += 32) {
            ShapeHouse x = readyHouse(EACH_KIND);
            for (int c = from; c < from + 32; c++) {
                String text = written + (char) c;
                if (next.indexOf(c) < 0) {
                    dueFault(x, shape, text, 1, written.length());
                } else {
                    write(x, text);
                    long answer = x.read(shape);
                    boolean goesOn = answer >= 0 || answer == -100 - text.length();
                    due(text + " goes on (" + answer + ")", goesOn ? 1 : 0, 1);
                }
            }
        }
    }

    /** Terms 3, "FAULTS of a writing, read from the left, part by part, by the forms told", "1 the first byte that can not come next" */
    private static void nextByteOfOne() {
        dueNext(0, "", "a");
        dueNext(11, "", "z");
        dueNext(1, "", ".");
        dueNext(2, "", "(");
        dueNext(2, "(", "a");
        dueNext(2, "(a", ".");
        dueNext(2, "(a.", ")");
        dueNext(3, "", "12");
        dueNext(3, "1", "a");
        dueNext(3, "2", "(");
        dueNext(3, "2(a.", ")");
    }

    /** Terms 3, "1 the first byte that can not come next": within a ROW, SET, APART, behind none and behind some. */
    private static void nextByteOfAll() {
        String[] ends = {"[]", "{}", "<>"};
        for (int i = 0; i < 3; i++) {
            String open = ends[i].substring(0, 1), close = ends[i].substring(1);
            dueNext(4 + i, "", open);
            dueNext(4 + i, open, "12" + close);
            dueNext(4 + i, open + "1", "a");
            dueNext(4 + i, open + "1a", "12" + close);
            dueNext(4 + i, open + "1a2(a.)", "12" + close);
        }
        dueNext(12, "[zz", "z]");
    }

    /** Terms 3, "1 the first byte that can not come next": within a CUT and an ARRANGED, whose letters come once. */
    private static void nextByteOfOthers() {
        dueNext(7, "", "!");
        dueNext(7, "!", "<");
        dueNext(7, "!<", "12>");
        dueNext(8, "", "=");
        dueNext(8, "=", "abc");
        dueNext(8, "=b", "ac");
        dueNext(8, "=cb", "a");
        dueNext(9, "=", "abcdefgh");
        dueNext(9, "=hacgebd", "f");
        dueNext(10, "=", "a");
    }

    /** Terms 3, "(the length, if it ends too soon)": from nothing at all to all but the last byte. */
    private static void endsTooSoon() {
        String[] whole = {"a", ".", "(a.)", "2(a.)", "[1a2(a.)]", "{1a2(a.)}", "<1a2(a.)>", "!<2(a.)>", "=cab", "=hgfedcba", "=a"};
        for (int shape = 0; shape < whole.length; shape++) {
            ShapeHouse x = readyHouse(EACH_KIND);
            for (int length = 0; length < whole[shape].length(); length++) {
                dueFault(x, shape, whole[shape].substring(0, length), 1, length);
            }
            write(x, whole[shape]);
            due("whole", x.read(shape) >= 0 ? 1 : 0, 1);
        }
    }

    /** Terms 3, "also one behind a whole THING": no byte can come there, not even one that the THING has. */
    private static void behindWhole() {
        dueNext(0, "a", "");
        dueNext(1, ".", "");
        dueNext(2, "(a.)", "");
        dueNext(3, "1a", "");
        dueNext(4, "[]", "");
        dueNext(5, "{}", "");
        dueNext(6, "<1a>", "");
        dueNext(7, "!<>", "");
        dueNext(8, "=abc", "");
    }

    /** Terms 3, "(whether a SHAPE has THINGS at all is not asked)": such a writing is read by its form. */
    private static void withoutThings() {
        ShapeHouse x = readyHouse(2, 0, 0, 0, 3, 0, 7, 1, 4 * 32 + 24, 2, 2, 1, 4, 2, 0);
        due("no THINGS", x.upTo(0, 24), 0);
        dueFault(x, 0, "(", 1, 1);
        dueFault(x, 0, "(((", 1, 3);
        dueFault(x, 0, "(()", 1, 2);
        dueFault(x, 0, ")", 1, 0);
        due("no THINGS", x.upTo(2, 24), 0);
        dueFault(x, 2, "!a", 2, 0);
        dueFault(x, 2, "!b", 1, 1);
        dueFault(x, 3, "(!aa)", 2, 1);
        dueFault(x, 3, "(!aa", 1, 4);
        dueFault(x, 4, "[!a!a]", 2, 1);
        dueRead(x, 4, "[]", 0, 0, 0);
    }

    // ---- FAULTS 2 and 4

    /** Terms 3, "Else 2 the ! of the first CUT (from the left) whose THING is not within it.": both ends, and next to them. */
    private static void notWithinCut() {
        for (int low = 0; low <= 24; low += 3) {
            ShapeHouse x = readyHouse(0, 1, 0, 4, 0, 0, 7, 1, 33 * low, 7, 1, 32 * low + 24, 7, 1, low);
            for (int size = Math.max(0, low - 1); size <= low + 1; size++) {
                String text = "![" + "a".repeat(size) + "]";
                boolean large = size > 24;
                dueCut(x, 2, text, size, size == low);
                dueCut(x, 3, text, size, size >= low && !large);
                dueCut(x, 4, text, size, size <= low);
            }
        }
    }

    private static void dueCut(ShapeHouse x, int shape, String text, int size, boolean within) {
        dueRead(x, shape, text, within ? 0 : -100, within ? 0 : 2, within ? size : NONE);
    }

    /** Terms 3, "the first CUT (from the left)": of two beside one another, of one within another. */
    private static void firstCut() {
        ShapeHouse x = readyHouse(0, 1, 0, 4, 0, 0, 7, 1, 33, 2, 2, 2, 7, 3, 2 * 33, 4, 2, 0);
        dueRead(x, 3, "(![a]![a])", 0, 0, 2);
        dueFault(x, 3, "(![]![])", 2, 1);
        dueFault(x, 3, "(![]![a])", 2, 1);
        dueFault(x, 3, "(![a]![])", 2, 5);
        dueRead(x, 4, "!(![a]![a])", 0, 0, 2);
        dueFault(x, 4, "!(![a]![])", 2, 0);
        dueFault(x, 4, "!(![]![aa])", 2, 2);
        dueFault(x, 4, "!(![aa]![])", 2, 2);
        dueFault(x, 5, "[![a]![a]![aa]![]]", 2, 9);
        // the last place at which a broken CUT can stand
        dueFault(x, 5, "[" + "![a]".repeat(73) + "![aaa]]", 2, 293);
    }

    /** Terms 3, "Else 2": FAULT 1 comes first, wherever it is. */
    private static void oneAheadOfTwo() {
        ShapeHouse x = readyHouse(0, 1, 0, 4, 0, 0, 7, 1, 33);
        dueFault(x, 2, "![", 1, 2);
        dueFault(x, 2, "![b]", 1, 2);
        dueFault(x, 2, "![])", 1, 3);
        dueFault(x, 2, "![]", 2, 0);
    }

    /** Terms 3, "Else 4 (place 0) its SIZE is above 24.": 24 and 25, as one, in parts, and far above. */
    private static void above24() {
        ShapeHouse x = readyHouse(0, 1, 0, 0, 9, 1, 3, 0, 1, 4, 2, 0, 5, 2, 0, 6, 2, 0, 2, 3, 3, 8, 8, 0, 4, 7, 0);
        dueRead(x, 3, "[" + "1a".repeat(24) + "]", 0, 0, 24);
        dueFault(x, 3, "[" + "1a".repeat(25) + "]", 4, 0);
        dueFault(x, 3, "[" + "2b".repeat(149) + "]", 4, 0);
        dueRead(x, 4, "{" + "1a".repeat(24) + "}", 0, 0, 24);
        dueFault(x, 4, "{" + "1a".repeat(25) + "}", 4, 0);
        String twelve = "[2b1a1a1a]", thirteen = "[2b1a1a1a1a]";
        write(x, "(" + twelve + twelve + ")");
        due("12 and 12", x.read(6) > 0 ? 1 : 0, 1);
        due("12 and 12", x.found(1), 24);
        dueFault(x, 6, "(" + twelve + thirteen + ")", 4, 0);
        dueFault(x, 6, "(" + thirteen + twelve + ")", 4, 0);
        dueRead(x, 8, "[=abcdefgh=abcdefgh=abcdefgh]", 0, 0, 24);
        dueFault(x, 8, "[=abcdefgh=abcdefgh=abcdefgh=abcdefgh]", 4, 0);
    }

    /** Terms 3, "Else 4": FAULTS 1 and 2 come first. */
    private static void twoAheadOfFour() {
        ShapeHouse x = readyHouse(0, 1, 0, 4, 0, 0, 7, 1, 24, 2, 2, 2, 7, 1, 25 * 32 - 32 + 24, 2, 1, 4);
        String some = "[" + "a".repeat(25) + "]", few = "[" + "a".repeat(24) + "]";
        dueFault(x, 1, some, 4, 0);
        dueFault(x, 1, some + "]", 1, 27);
        dueFault(x, 2, "!" + some, 2, 0);
        dueRead(x, 2, "!" + few, 0, 0, 24);
        dueFault(x, 3, "(!" + few + "!" + few + ")", 4, 0);
        dueFault(x, 3, "(!" + few + "!" + some + ")", 2, 28);
        dueFault(x, 5, "([a]!" + few + ")", 4, 0);
        dueFault(x, 5, "([a]!" + some + ")", 2, 4);
        dueFault(x, 5, "([a]!" + some, 1, 32);
    }

    // ---- FAULT 3

    /** Terms 3, "3 the first byte of the first THING (from the left) in an APART that is alike with one ahead of it there." */
    private static void alike() {
        ShapeHouse x = readyHouse(0, 1, 0, 0, 1, 1, 3, 0, 1, 6, 2, 0, 0, 2, 2, 3, 2, 4, 6, 5, 0);
        dueRead(x, 3, "<1a2b>", 0, 0, 2);
        dueRead(x, 3, "<1a1a>", -103, 3, 2);
        dueRead(x, 3, "<2b2b>", -103, 3, 2);
        dueRead(x, 3, "<1a2b1a>", -105, 3, 3);
        dueRead(x, 3, "<1a2b2b>", -105, 3, 3);
        dueRead(x, 3, "<1a2b2b1a>", -105, 3, 4);
        dueRead(x, 3, "<" + "1a".repeat(24) + ">", -103, 3, 24);
        // NUMBER 0 of SIZE 1 and NUMBER 0 of SIZE 2 are not alike
        dueRead(x, 6, "<11a2c>", 0, 0, 3);
        dueRead(x, 6, "<2c11a>", 0, 0, 3);
        dueRead(x, 6, "<2c11a2c>", -106, 3, 5);
    }

    /** Terms 3, "that is alike with one ahead of it there": not in a ROW, not in a SET, not in another APART. */
    private static void alikeElsewhere() {
        ShapeHouse x = readyHouse(0, 1, 0, 6, 0, 0, 4, 0, 0, 5, 0, 0, 2, 1, 1, 2, 0, 1, 4, 5, 0, 5, 5, 0, 6, 5, 0);
        dueRead(x, 2, "[aa]", 0, 0, 2);
        dueRead(x, 3, "{aa}", 0, 0, 2);
        dueRead(x, 4, "(<a><a>)", 0, 0, 2);
        dueRead(x, 6, "[(a<a>)(a<a>)]", 4, 0, 4);
        dueRead(x, 7, "{(a<a>)(a<a>)}", 2, 0, 4);
        dueRead(x, 8, "<(a<a>)(a<a>)>", -107, 3, 4);
        dueRead(x, 8, "<(a<a>)(a<>)>", 0, 0, 3);
    }

    /** Terms 3, "that is alike with one ahead of it there": alike whatever order the SETS in them are written in. */
    private static void alikeInAnyOrder() {
        ShapeHouse x = readyHouse(8, 2, 0, 5, 0, 0, 0, 1, 0, 2, 2, 1, 6, 3, 0);
        dueRead(x, 4, "<(a{=ab=ba})(a{=ba=ab})>", -112, 3, 10);
        dueRead(x, 4, "<(a{=ab=ba})(a{=ab=ab})>", 0, 0, 10);
    }

    /** Terms 3, "the first THING (from the left)": of several APARTS, whichever stands within which. */
    private static void firstAlike() {
        ShapeHouse x = readyHouse(0, 1, 0, 6, 0, 0, 2, 0, 1, 6, 2, 0, 2, 3, 3);
        dueRead(x, 3, "<(a<>)(a<>)(a<aa>)>", -106, 3, 5);
        dueRead(x, 3, "<(a<aa>)(a<>)(a<>)>", -105, 3, 5);
        dueRead(x, 3, "<(a<>)(a<aa>)(a<>)>", -110, 3, 5);
        dueRead(x, 4, "(<(a<>)><(a<>)>)", 1, 0, 2);
        dueRead(x, 4, "(<(a<>)><(a<>)(a<>)>)", -114, 3, 3);
        dueRead(x, 4, "(<(a<>)(a<>)><(a<>)(a<>)>)", -107, 3, 4);
        dueRead(x, 4, "(<(a<aa>)><(a<>)(a<>)>)", -106, 3, 5);
    }

    /** Terms 3, "Else, if": FAULTS 1, 2 and 4 come ahead of 3, which has a SIZE up to 24. */
    private static void othersAheadOfThree() {
        ShapeHouse x = readyHouse(0, 1, 0, 6, 0, 0, 7, 1, 2 * 33, 2, 1, 2);
        dueRead(x, 1, "<" + "a".repeat(24) + ">", -102, 3, 24);
        dueFault(x, 1, "<" + "a".repeat(25) + ">", 4, 0);
        dueFault(x, 1, "<aa", 1, 3);
        dueFault(x, 1, "<aa>>", 1, 4);
        dueRead(x, 2, "!<aa>", -103, 3, 2);
        dueFault(x, 2, "!<aaa>", 2, 0);
        dueFault(x, 3, "(<aa>!<a>)", 2, 5);
        dueRead(x, 3, "(<aa>!<aa>)", -103, 3, 4);
    }

    // ---- MANY

    /** A pair of pairs and so on of ten THINGS each: sixteen digits. */
    private static String digits(String digit, int deep) {
        String half = deep == 0 ? "" : digits(digit, deep - 1);
        return deep == 0 ? digit : "(" + half + half + ")";
    }

    /** THINGS of SHAPE 12 of manyHouse(), of SIZE 1: the last NUMBER below LIMIT, and LIMIT. */
    private static final String BELOW = "(1" + digits("22.", 4) + "a)", AT_LIMIT = "(2" + digits("1111.", 4) + "a)";

    private static ShapeHouse manyHouse() {
        return readyHouse(1, 0, 0, 3, 0, 0, 3, 1, 1, 3, 2, 2, 3, 3, 1, 2, 4, 4, 2, 5, 5, 2, 6, 6, 2, 7, 7,
            3, 8, 8, 0, 1, 0, 6, 12, 0, 2, 9, 10, 5, 12, 0, 2, 11, 12, 6, 14, 0);
    }

    /** Terms 3, "has a NUMBER (as one of its SHAPE and SIZE) that is MANY": LIMIT - 1 in a SET or APART is not, LIMIT is. */
    private static void manyInSets() {
        ShapeHouse x = manyHouse();
        dueRead(x, 12, BELOW, LIMIT - 1, 0, 1);
        dueRead(x, 12, AT_LIMIT, MANY, 0, 1);
        dueRead(x, 13, "{" + BELOW + "}", LIMIT - 1, 0, 1);
        dueRead(x, 13, "{" + AT_LIMIT + "}", MANY, 0, 1);
        dueRead(x, 11, "<" + BELOW + ">", LIMIT - 1, 0, 1);
        dueRead(x, 11, "<" + AT_LIMIT + ">", MANY, 0, 1);
    }

    /** Terms 3, "if no THING of a SET or APART in it has a NUMBER": FAULT 3 below LIMIT, none from LIMIT on. */
    private static void manyAheadOfThree() {
        ShapeHouse x = manyHouse();
        int second = 1 + BELOW.length();
        dueRead(x, 11, "<" + BELOW + BELOW + ">", -100 - second, 3, 2);
        dueRead(x, 11, "<" + AT_LIMIT + AT_LIMIT + ">", MANY, 0, 2);
        dueRead(x, 11, "<" + BELOW + BELOW + AT_LIMIT + ">", MANY, 0, 3);
        dueRead(x, 11, "<" + AT_LIMIT + BELOW + BELOW + ">", MANY, 0, 3);
        // one that is MANY, but stands in no SET or APART, hides nothing
        dueRead(x, 14, "(<" + BELOW + BELOW + ">" + AT_LIMIT + ")", -100 - 1 - second, 3, 3);
        // one that is MANY in an APART hides what is alike in another, ahead of it and behind it
        x.put(14, 2, 11, 11);
        x.put(15, 1, 0, 0);
        due("ready", x.ready(), 0);
        dueRead(x, 14, "(<" + BELOW + BELOW + "><" + AT_LIMIT + ">)", MANY, 0, 3);
        dueRead(x, 14, "(<" + AT_LIMIT + "><" + BELOW + BELOW + ">)", MANY, 0, 3);
        dueRead(x, 14, "(<>" + "<" + BELOW + BELOW + ">)", -100 - 3 - second, 3, 2);
    }

    /** Terms 3, "(One that has such a FAULT within it has no NUMBER, and is alike with none.)": it is not MANY either. */
    private static void faultWithin() {
        ShapeHouse x = manyHouse();
        int second = 3 + BELOW.length();
        dueRead(x, 15, "<(<>" + AT_LIMIT + ")>", MANY, 0, 1);
        dueRead(x, 15, "<(<" + BELOW + BELOW + ">" + AT_LIMIT + ")>", -100 - second, 3, 3);
        x = readyHouse(0, 1, 0, 6, 0, 0, 2, 0, 1, 6, 2, 0);
        dueRead(x, 3, "<(a<aa>)(a<aa>)>", -105, 3, 6);
        dueRead(x, 3, "<(a<aa>)>", -105, 3, 3);
    }

    /** Terms 3, "Else, if": FAULTS 1, 2 and 4 come ahead of MANY, too. */
    private static void othersAheadOfMany() {
        ShapeHouse x = manyHouse();
        dueFault(x, 13, "{" + AT_LIMIT, 1, 1 + AT_LIMIT.length());
        dueFault(x, 13, "{" + AT_LIMIT + "}}", 1, 2 + AT_LIMIT.length());
        x.put(10, 0, 9, 0);
        x.put(15, 7, 13, 10 * 33);
        due("ready", x.ready(), 0);
        dueRead(x, 13, "{" + AT_LIMIT + BELOW + "}", MANY, 0, 18);
        dueFault(x, 13, "{" + AT_LIMIT + BELOW + BELOW + "}", 4, 0);
        dueFault(x, 15, "!{" + AT_LIMIT + "}", 2, 0);
    }
}
