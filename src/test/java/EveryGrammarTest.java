import java.util.ArrayDeque;
import java.util.ArrayList;
import java.util.Deque;
import java.util.List;

/** All grammars of few SHAPES out of few numbers, with all their short writings, compared with the Model and brute force. */
public final class EveryGrammarTest {
    private static final String SIGNS = "ab.()12[]{}<>!=";
    private static final int ROUNDS = 25;
    private static long grammars, ready, calls;
    private static int wrong;

    public static void main(String[] args) {
        everyNth(1, 1);
        everyNth(2, 1);
        // A number without small divisors, so that the SHAPES of those that are taken vary.
        everyNth(3, args.length > 0 ? Integer.parseInt(args[0]) : 37);
        System.out.println(grammars + " grammars, " + ready + " of them READY, " + calls + " calls compared, " + wrong + " differ");
        if (wrong != 0 || ready == 0) {
            System.exit(1);
        }
    }

    private static void everyNth(int shapes, int step) {
        List<int[]> choices = choices(shapes);
        long all = Math.round(Math.pow(choices.size(), shapes));
        for (long i = 0; i < all && wrong == 0; i += step) {
            int[][] grammar = new int[shapes][];
            long left = i;
            for (int x = 0; x < shapes; x++) {
                grammar[x] = choices.get((int) (left % choices.size()));
                left /= choices.size();
            }
            compare(grammar);
        }
    }

    /** One of the parts of one or two SHAPES is missing, so that FAULT 1 comes, too. */
    private static List<int[]> choices(int shapes) {
        List<int[]> all = new ArrayList<>(List.of(new int[] {0, 1, 0}, new int[] {0, 2, 0}, new int[] {1, 0, 0}, new int[] {8, 2, 0}));
        int parts = Math.min(3, shapes + 1);
        for (int a = 0; a < parts; a++) {
            for (int b = 0; b < parts; b++) {
                all.add(new int[] {2, a, b});
                all.add(new int[] {3, a, b});
            }
            for (int kind = 4; kind <= 6; kind++) {
                all.add(new int[] {kind, a, 0});
            }
            for (int span : new int[] {1, 2 * 32 + 4, 32 + 24}) {
                all.add(new int[] {7, a, span});
            }
        }
        return all;
    }

    private static void compare(int[][] grammar) {
        Twins t = twins(grammar);
        boolean sound = t.ready() == 0;
        for (int x = 0; x < grammar.length; x++) {
            for (int size = 0; size <= 24; size++) {
                t.count(x, size);
            }
            t.upTo(x, 24);
            t.parts(x, 0, 24);
        }
        close(t);
        for (int x = 0; sound && x < grammar.length; x++) {
            leastThings(grammar, x);
            shortWritings(grammar, x);
        }
        grammars++;
        ready += sound ? 1 : 0;
    }

    private static Twins twins(int[][] grammar) {
        Twins t = new Twins();
        for (int[] s : grammar) {
            t.shape(s[0], s[1], s[2]);
        }
        return t;
    }

    private static void close(Twins t) {
        calls += t.calls;
        wrong += t.wrong;
    }

    private static void leastThings(int[][] grammar, int x) {
        for (int size = 0; size <= 4; size++) {
            Twins t = twins(grammar);
            t.ready();
            List<Model.Thing> all = t.model.all(x, size, 12);
            for (int i = 0; all != null && i < all.size(); i++) {
                t.thing(x, size, i);
                dueText(t, t.model.text(all.get(i)));
                t.again();
                t.read(x);
            }
            close(t);
        }
    }

    private static void dueText(Twins t, String text) {
        String out = t.outText();
        if (!out.equals(text)) {
            t.wrong++;
            System.out.println("OUT is " + out + ", brute force makes " + text + " in " + t.model);
        }
    }

    /** Shorter ones first; a writing goes on for as long as each of its bytes can come. */
    private static void shortWritings(int[][] grammar, int x) {
        Deque<String> begun = new ArrayDeque<>(List.of(""));
        for (int i = 0; i < ROUNDS && !begun.isEmpty(); i++) {
            Twins t = twins(grammar);
            t.ready();
            String text = begun.poll();
            for (char sign : SIGNS.toCharArray()) {
                String longer = text + sign;
                long answer = t.readText(x, longer);
                if (t.model.found(0) != 1 || answer == -100 - longer.length()) {
                    begun.add(longer);
                }
            }
            close(t);
        }
    }
}
