import java.lang.StackWalker.StackFrame;
import java.lang.reflect.InvocationTargetException;
import java.lang.reflect.Method;
import java.lang.reflect.Modifier;
import java.util.List;
import java.util.stream.Collectors;

/** What the tests have in common: houses made of triples, writings for the tape, and answers that are due. */
abstract class Kit {
    static final long BAD = -2000000001L, NO = -2000000002L, FULL = -2000000003L, MANY = -2000000004L, NONE = -2000000005L;
    static final long LIMIT = 10000000000000000L;
    static final int LOW = Integer.MIN_VALUE, HIGH = Integer.MAX_VALUE;
    /** Numbers that are as told nowhere, some of them only once they are cut to fewer bits. */
    static final int[] FAR = {LOW, LOW + 1, -65536, -256, 256, 65536, HIGH - 1, HIGH};
    private static int wrong;

    /** Runs every static method without parameters of a class of tests, so that none is forgotten. */
    static void runAll(Class<?> tests) {
        int ran = 0;
        for (Method m : tests.getDeclaredMethods()) {
            if (!m.isSynthetic() && Modifier.isStatic(m.getModifiers()) && m.getParameterCount() == 0 && m.getReturnType() == void.class) {
                run(m);
                ran++;
            }
        }
        System.out.println(ran + " tests, " + (wrong == 0 ? "all answers are as due" : wrong + " answers are not as due"));
        if (wrong != 0 || ran == 0) {
            System.exit(1);
        }
    }

    private static void run(Method test) {
        try {
            test.setAccessible(true);
            test.invoke(null);
        } catch (InvocationTargetException | IllegalAccessException e) {
            wrong++;
            System.out.println(test.getName() + " ended with " + (e.getCause() == null ? e : e.getCause()));
        }
    }

    /** The test that stands lowest of those whose calls are open. */
    private static String test() {
        List<String> open = StackWalker.getInstance().walk(s -> s.map(StackFrame::getMethodName).collect(Collectors.toList()));
        int run = open.indexOf("run");
        return run > 0 ? open.get(run - 1) : "?";
    }

    static void due(String what, long got, long want) {
        if (got != want) {
            wrong++;
            System.out.println(test() + ": " + what + " answered " + got + ", due is " + want);
        }
    }

    static void due(String what, String got, String want) {
        if (!got.equals(want)) {
            wrong++;
            System.out.println(test() + ": " + what + " is " + got + ", due is " + want);
        }
    }

    /** SHAPES from triples of KIND, a, b. */
    static ShapeHouse house(int... triples) {
        ShapeHouse x = new ShapeHouse();
        for (int i = 0; i + 2 < triples.length; i += 3) {
            due("shape " + i / 3, x.shape(triples[i], triples[i + 1], triples[i + 2]), i / 3);
        }
        return x;
    }

    static ShapeHouse readyHouse(int... triples) {
        ShapeHouse x = house(triples);
        due("ready", x.ready(), 0);
        return x;
    }

    static void write(ShapeHouse x, String text) {
        x.trim(0);
        for (int at = 0; at < text.length(); at += 20) {
            int[] words = new int[5];
            for (int i = 0; i < 20; i++) {
                int c = at + i < text.length() ? text.charAt(at + i) : 0;
                words[i / 4] = words[i / 4] << 8 | c;
            }
            x.feed(words[0], words[1], words[2], words[3], words[4]);
        }
        due("trim for " + text, x.trim(text.length()), text.length());
    }

    static void dueRead(ShapeHouse x, int shape, String text, long want, long fault, long size) {
        write(x, text);
        due("read " + text, x.read(shape), want);
        due("tape after " + text, x.state(1), 0);
        due("fault of " + text, x.found(0), fault);
        due("size of " + text, x.found(1), size);
        due("bytes of " + text, x.found(2), text.length());
    }

    /** A writing with FAULT 1, 2 or 4, which has no SIZE to tell. */
    static void dueFault(ShapeHouse x, int shape, String text, int fault, int place) {
        dueRead(x, shape, text, -100 - place, fault, NONE);
    }

    static String told(ShapeHouse x) {
        StringBuilder s = new StringBuilder();
        long length = x.state(2);
        for (int i = 0; i < length; i++) {
            s.append((char) x.out(i));
        }
        return s.toString();
    }

    static void dueThing(ShapeHouse x, int shape, int size, long number, String want) {
        due("thing of " + want, x.thing(shape, size, number), want.length());
        due("thing " + number, told(x), want);
        due("again", x.again(), want.length());
        due("number of " + want, x.read(shape), number);
    }

    /** All THINGS of a SHAPE and SIZE, in THE ORDER. */
    static void dueThings(ShapeHouse x, int shape, int size, String... want) {
        due("count", x.count(shape, size), want.length);
        for (int i = 0; i < want.length; i++) {
            dueThing(x, shape, size, i, want[i]);
        }
        due("no more of them", x.thing(shape, size, want.length), NONE);
    }
}
