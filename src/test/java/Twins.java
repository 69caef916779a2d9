import java.util.ArrayList;
import java.util.List;

/** Makes every call on a ShapeHouse and on the Model, and tells where they differ. */
final class Twins {
    /** What is promised ends with an object's 512th call. */
    static final int CALLS = 512;
    private final ShapeHouse house = new ShapeHouse();
    final Model model = new Model();
    private final List<String> log = new ArrayList<>();
    int wrong;
    int calls;

    private long same(String call, long got, long want) {
        calls++;
        if (calls > CALLS) {
            wrong++;
            System.out.println("the test makes more than " + CALLS + " calls on one object of " + model);
        }
        log.add(call + " -> " + got);
        if (got != want) {
            wrong++;
            if (wrong == 1) {
                System.out.println(String.join("\n", log));
                System.out.println("  due is " + want + " of " + model);
            }
        }
        return want;
    }

    long shape(int k, int a, int b) {
        return same("shape(" + k + ", " + a + ", " + b + ")", house.shape(k, a, b), model.shape(k, a, b));
    }

    long put(int x, int k, int a, int b) {
        return same("put(" + x + ", " + k + ", " + a + ", " + b + ")", house.put(x, k, a, b), model.put(x, k, a, b));
    }

    long undo() {
        return same("undo()", house.undo(), model.undo());
    }

    long about(int x, int w) {
        return same("about(" + x + ", " + w + ")", house.about(x, w), model.about(x, w));
    }

    long ready() {
        return same("ready()", house.ready(), model.ready());
    }

    long count(int x, int n) {
        return same("count(" + x + ", " + n + ")", house.count(x, n), model.count(x, n));
    }

    long upTo(int x, int n) {
        return same("upTo(" + x + ", " + n + ")", house.upTo(x, n), model.upTo(x, n));
    }

    long parts(int x, int y, int n) {
        return same("parts(" + x + ", " + y + ", " + n + ")", house.parts(x, y, n), model.parts(x, y, n));
    }

    long thing(int x, int n, long number) {
        return same("thing(" + x + ", " + n + ", " + number + ")", house.thing(x, n, number), model.thing(x, n, number));
    }

    long feed(int a, int b, int c, int d, int e) {
        String call = "feed(" + a + ", " + b + ", " + c + ", " + d + ", " + e + ")";
        return same(call, house.feed(a, b, c, d, e), model.feed(a, b, c, d, e));
    }

    long trim(int n) {
        return same("trim(" + n + ")", house.trim(n), model.trim(n));
    }

    long again() {
        return same("again()", house.again(), model.again());
    }

    long read(int x) {
        return same("read(" + x + ")", house.read(x), model.read(x));
    }

    long found(int w) {
        return same("found(" + w + ")", house.found(w), model.found(w));
    }

    long out(int i) {
        return same("out(" + i + ")", house.out(i), model.out(i));
    }

    long state(int w) {
        return same("state(" + w + ")", house.state(w), model.state(w));
    }

    /** The text is put on the tape (which is empty) by feed() and trim(). */
    void write(String text) {
        for (int at = 0; at < text.length(); at += 20) {
            int[] words = new int[5];
            for (int i = 0; i < 20; i++) {
                int c = at + i < text.length() ? text.charAt(at + i) & 255 : 0;
                words[i / 4] = words[i / 4] << 8 | c;
            }
            feed(words[0], words[1], words[2], words[3], words[4]);
        }
        trim(text.length());
    }

    long readText(int x, String text) {
        if (text.length() > 300) {
            return Model.FULL;
        }
        write(text);
        long answer = read(x);
        found(0);
        found(1);
        found(2);
        return answer;
    }

    String outText() {
        StringBuilder s = new StringBuilder();
        long length = state(2);
        for (int i = 0; i < length; i++) {
            s.append((char) out(i));
        }
        return s.toString();
    }

    /** New ones with the same SHAPES, found READY. */
    Twins anew() {
        Twins t = new Twins();
        for (int[] s : model.shapes()) {
            t.shape(s[0], s[1], s[2]);
        }
        t.ready();
        t.model.learn(model);
        return t;
    }
}
