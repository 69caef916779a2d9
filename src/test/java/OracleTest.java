import java.math.BigInteger;
import java.util.ArrayList;
import java.util.Collections;
import java.util.List;
import java.util.Random;

/** Random grammars and runs, compared with the Model and with brute force. */
public final class OracleTest {
    private static final int[] COMPOSITE = {2, 2, 2, 3, 3, 4, 5, 5, 6, 6, 7, 7};
    private static int wrong;
    private static long calls;
    private static final int[] faults = new int[5];
    private static int many;

    public static void main(String[] args) {
        int rounds = args.length > 0 ? Integer.parseInt(args[0]) : 300;
        long seed = args.length > 1 ? Long.parseLong(args[1]) : 1;
        for (int i = 0; i < rounds && wrong == 0; i++) {
            smallThings(new Random(seed * 1000003L + i));
            greatThings(new Random(seed * 2000003L + i), false);
            greatThings(new Random(seed * 5000011L + i), true);
            anyCalls(new Random(seed * 3000017L + i));
            alikeThings(new Random(seed * 4000037L + i));
        }
        if (many == 0 || faults[0] == 0 || faults[1] == 0 || faults[2] == 0 || faults[3] == 0 || faults[4] == 0) {
            System.out.println("the runs leave a kind of answer out");
            wrong++;
        }
        System.out.println(calls + " calls compared, " + wrong + " runs differ; faults read: "
            + java.util.Arrays.toString(faults) + ", MANY: " + many);
        if (wrong != 0) {
            System.exit(1);
        }
    }

    private static void close(Twins t) {
        wrong += t.wrong > 0 ? 1 : 0;
        calls += t.calls;
    }

    /** Twins on which a THING of 300 bytes can still be told and read, the same ones or new ones. */
    private static Twins roomy(Twins t) {
        if (t.calls <= 160) {
            return t;
        }
        close(t);
        return t.anew();
    }

    private static int cut(Random r) {
        int low = r.nextInt(3) == 0 ? 0 : r.nextInt(8);
        return 32 * low + low + r.nextInt(25 - low);
    }

    private static int[] randomShape(Random r, int parts) {
        int luck = r.nextInt(10);
        if (luck < 3) {
            return new int[] {0, r.nextInt(4) > 0 ? 1 + r.nextInt(2) : 1 + r.nextInt(9), r.nextInt(26)};
        }
        if (luck == 3) {
            return r.nextBoolean() ? new int[] {1, 0, 0} : new int[] {8, 1 + r.nextInt(8), 0};
        }
        int kind = COMPOSITE[r.nextInt(COMPOSITE.length)];
        int a = r.nextInt(parts), b = r.nextInt(parts);
        return new int[] {kind, a, kind <= 3 ? b : kind == 7 ? cut(r) : 0};
    }

    /** A grammar that is READY: SHAPES with a FAULT are put anew until there is none. */
    private static int makeGrammar(Twins t, Random r) {
        int n = 2 + r.nextInt(15);
        t.shape(0, 1, r.nextInt(26));
        for (int x = 1; x < n; x++) {
            int[] s = randomShape(r, n);
            t.shape(s[0], s[1], s[2]);
        }
        for (int i = 0; i < 60; i++) {
            long fault = t.ready();
            if (fault == 0) {
                return n;
            }
            int[] s = i < 30 ? randomShape(r, n) : new int[] {0, 1 + r.nextInt(3), r.nextInt(26)};
            t.put((int) (fault % 16), s[0], s[1], s[2]);
        }
        return t.ready() == 0 ? n : 0;
    }

    /** Likewise, with so many THINGS that there are MANY of the greater SIZES. */
    private static int makeRich(Twins t, Random r) {
        int doublings = 1 + r.nextInt(4);
        t.shape(0, 1, 0);
        t.shape(0, 1, 1);
        for (int i = 0; i < doublings; i++) {
            t.shape(3, 1 + i, 1 + i);
        }
        int few = 1 + doublings;
        t.shape(4, few, 0);
        t.shape(7, few + 1, 32 + 24);
        t.shape(2, few + 2, few + (r.nextBoolean() ? 2 : 4));
        t.shape(5 + r.nextInt(2), r.nextBoolean() ? few + 2 : few + 3, 0);
        t.shape(5 + r.nextInt(2), r.nextBoolean() ? few + 2 : few + 3, 0);
        t.shape(2, few + 5, few);
        t.shape(6, few + 6, 0);
        int n = few + 8;
        for (int x = n; x < 16; x++) {
            int[] s = randomShape(r, x);
            t.shape(s[0], s[1], s[2]);
        }
        for (int i = 0; i < 60; i++) {
            long fault = t.ready();
            if (fault == 0) {
                return 16;
            }
            t.put((int) (fault % 16), 0, 1, 1);
        }
        return 0;
    }

    private static void readAll(Twins t, int x, String text) {
        long answer = t.readText(x, text);
        long fault = t.model.found(0);
        if (fault >= 0 && fault <= 4) {
            faults[(int) fault]++;
        }
        many += answer == ShapeHouse.MANY ? 1 : 0;
    }

    private static Model.Thing parse(Twins t, int x, String text) {
        return t.model.take(x, text, new int[] {0});
    }

    private static void shuffle(Twins t, Model.Thing thing, Random r) {
        if (t.model.isBag(thing)) {
            Collections.shuffle(thing.kids, r);
        }
        thing.kids.forEach(k -> shuffle(t, k, r));
    }

    /** Puts a part of a bag (or row) there once more, or drops one. */
    private static void disturb(Twins t, Model.Thing thing, Random r, boolean bagsOnly) {
        List<Model.Thing> places = new ArrayList<>();
        gather(t, thing, places, bagsOnly);
        if (!places.isEmpty()) {
            Model.Thing place = places.get(r.nextInt(places.size()));
            Model.Thing kid = place.kids.get(r.nextInt(place.kids.size()));
            if (r.nextInt(4) == 0) {
                place.kids.remove(kid);
            } else {
                place.kids.add(r.nextInt(place.kids.size() + 1), kid);
            }
        }
    }

    private static void gather(Twins t, Model.Thing thing, List<Model.Thing> places, boolean bagsOnly) {
        boolean row = !bagsOnly && t.model.text(thing).startsWith("[");
        if ((t.model.isBag(thing) || row) && !thing.kids.isEmpty()) {
            places.add(thing);
        }
        thing.kids.forEach(k -> gather(t, k, places, bagsOnly));
    }

    private static String spoil(String text, Random r) {
        StringBuilder s = new StringBuilder(text);
        String signs = "abc.()12[]{}<>!=" + (char) 0 + (char) 200;
        int at = r.nextInt(s.length() + 1);
        char sign = signs.charAt(r.nextInt(signs.length()));
        switch (r.nextInt(4)) {
            case 0 -> s.insert(at, sign);
            case 1 -> s.setLength(at);
            case 2 -> s.setCharAt(Math.min(at, s.length() - 1), sign);
            default -> s.deleteCharAt(Math.min(at, s.length() - 1));
        }
        return s.toString();
    }

    /** All THINGS of small SIZES, against brute force by the words of THE ORDER. */
    private static void smallThings(Random r) {
        Twins t = new Twins();
        int n = makeGrammar(t, r);
        for (int x = 0; x < n; x++) {
            for (int size = 0; size <= 7; size++) {
                t = roomy(t);
                List<Model.Thing> all = t.model.all(x, size, 60);
                if (all == null) {
                    break;
                }
                if (t.count(x, size) != all.size()) {
                    t.wrong++;
                    System.out.println("brute force counts " + all.size() + " of " + x + " of size " + size + " in " + t.model);
                }
                for (int i = 0; i < all.size(); i++) {
                    t = roomy(t);
                    oneSmall(t, x, size, i, all.get(i), r);
                }
            }
        }
        close(t);
    }

    private static void oneSmall(Twins t, int x, int size, int number, Model.Thing thing, Random r) {
        String text = t.model.text(thing);
        long length = t.thing(x, size, number);
        if (text.length() > 300) {
            t.wrong += length == Model.FULL ? 0 : 1;
            return;
        }
        if (!t.outText().equals(text)) {
            t.wrong++;
            System.out.println("thing " + number + " of " + x + " of size " + size + " is " + text + " in " + t.model);
        }
        // Brute force uses one object in many things, so a copy is shuffled.
        Model.Thing copy = parse(t, x, text);
        shuffle(t, copy, r);
        t.write(t.model.text(copy));
        if (t.read(x) != number) {
            t.wrong++;
            System.out.println("read " + t.model.text(copy) + " in " + t.model);
        }
        readAll(t, x, spoil(text, r));
    }

    /** THINGS of all SIZES and NUMBERS, written out of order and with faults. */
    private static void greatThings(Random r, boolean rich) {
        Twins t = new Twins();
        int n = rich ? makeRich(t, r) : makeGrammar(t, r);
        for (int x = 0; x < n; x++) {
            for (int i = 0; i < 3; i++) {
                int size = r.nextInt(25);
                t = roomy(t);
                long count = t.count(x, size);
                t.upTo(x, size);
                t.parts(x, r.nextInt(n), size);
                if (count == 0) {
                    continue;
                }
                long bound = count < 0 ? ShapeHouse.LIMIT : count;
                long number = r.nextInt(4) == 0 ? bound - 1 : Math.floorMod(r.nextLong(), bound);
                if (t.thing(x, size, number) > 0) {
                    t = variants(t, x, t.outText(), r);
                }
                if (count < 0) {
                    BigInteger beyond = t.model.exact(x, size).subtract(BigInteger.ONE).shiftRight(r.nextInt(4));
                    String text = t.model.written(x, size, beyond);
                    if (text.length() <= 300) {
                        t = variants(t, x, text, r);
                    }
                }
            }
        }
        close(t);
    }

    private static Twins variants(Twins told, int x, String text, Random r) {
        Twins t = roomy(told);
        readAll(t, x, text);
        Model.Thing thing = parse(t, x, text);
        shuffle(t, thing, r);
        readAll(t, x, t.model.text(thing));
        disturb(t, thing, r, true);
        readAll(t, x, t.model.text(thing));
        disturb(t, thing, r, false);
        readAll(t, x, t.model.text(thing));
        readAll(t, x, spoil(text, r));
        return t;
    }

    /** APARTS within SETS within APARTS, with things that come twice. */
    private static void alikeThings(Random r) {
        Twins t = new Twins();
        t.shape(0, 1, 0);
        t.shape(0, 1 + r.nextInt(2), 1);
        t.shape(3, 0, r.nextBoolean() ? 1 : 4);
        t.shape(2, 2, r.nextBoolean() ? 5 : 6);
        t.shape(2, 0, 5);
        t.shape(6, r.nextBoolean() ? 2 : 3, 0);
        t.shape(r.nextBoolean() ? 5 : 4, 3, 0);
        t.shape(6, 3, 0);
        t.shape(7, 7, 32 * r.nextInt(3) + 6 + r.nextInt(19));
        if (t.ready() == 0) {
            for (int i = 0; i < 8; i++) {
                int x = 5 + r.nextInt(4);
                int size = 3 + r.nextInt(10);
                t = roomy(t);
                long count = t.count(x, size);
                if (count != 0) {
                    long bound = count < 0 ? ShapeHouse.LIMIT : count;
                    if (t.thing(x, size, Math.floorMod(r.nextLong(), bound)) > 0) {
                        t = variants(t, x, t.outText(), r);
                    }
                }
            }
        }
        close(t);
    }

    private static int any(Random r, int bound) {
        return r.nextInt(40) == 0 ? r.nextInt() : r.nextInt(bound + 3) - 1;
    }

    /** Calls of every kind with arguments around their bounds. */
    private static void anyCalls(Random r) {
        Twins t = new Twins();
        if (r.nextBoolean()) {
            makeGrammar(t, r);
        }
        while (t.calls < Twins.CALLS - 2) {
            anyCall(t, r);
        }
        close(t);
    }

    private static void anyCall(Twins t, Random r) {
        int x = any(r, 16), n = any(r, 25);
        switch (r.nextInt(24)) {
            case 0 -> t.shape(any(r, 9), any(r, 16), r.nextBoolean() ? 0 : any(r, 26));
            case 1 -> {
                int[] s = randomShape(r, 1 + r.nextInt(16));
                t.shape(s[0], s[1], s[2]);
            }
            case 2 -> t.put(x, any(r, 9), any(r, 16), r.nextInt(3) > 0 ? 0 : any(r, 800));
            case 3 -> t.undo();
            case 4 -> t.about(x, any(r, 3));
            case 5, 6, 7, 8, 9 -> {
                long fault = t.ready();
                if (fault != 0) {
                    int[] s = r.nextBoolean() ? randomShape(r, 16) : new int[] {0, 1, 1};
                    t.put((int) (fault % 16), s[0], s[1], s[2]);
                    t.ready();
                }
            }
            case 10 -> t.count(x, n);
            case 11 -> t.upTo(x, n);
            case 12 -> t.parts(x, any(r, 16), n);
            case 13, 14, 15 -> {
                long number = r.nextInt(3) == 0 ? r.nextLong() % (2 * ShapeHouse.LIMIT) : r.nextInt(30) - 1;
                if (t.thing(x, n, number) > 0 && r.nextBoolean()) {
                    t.again();
                    t.read(r.nextBoolean() ? x : any(r, 16));
                }
            }
            case 16 -> t.feed(r.nextInt(), r.nextInt(), r.nextInt(), r.nextInt(), r.nextInt());
            case 17 -> t.trim(any(r, 40));
            case 18 -> t.again();
            case 19 -> t.read(x);
            case 20, 21 -> t.found(any(r, 3));
            case 22 -> t.out(any(r, 300));
            default -> t.state(any(r, 5));
        }
    }
}
