import java.math.BigInteger;
import java.util.ArrayDeque;
import java.util.ArrayList;
import java.util.Arrays;
import java.util.Collections;
import java.util.Deque;
import java.util.HashMap;
import java.util.List;
import java.util.Map;

/**
 * A second house of shapes, for comparison: written from the document alone, with unbounded
 * numbers, recursion and other formulas than the program's (sets are counted by the sums
 * over divisors, not by binomials).
 */
final class Model {
    static final long BAD = -2000000001L, NO = -2000000002L, FULL = -2000000003L, MANY = -2000000004L, NONE = -2000000005L;
    static final BigInteger LIMIT = BigInteger.TEN.pow(16);
    private static final String OPEN = "?.(?[{<!=", CLOSE = "??)?]}>??";

    /** A THING, as the reader takes it apart and as brute force makes it. */
    static final class Thing {
        final int shape, place;
        final List<Thing> kids = new ArrayList<>();
        int choice;
        String letters = "";
        int size;
        boolean numbered;
        BigInteger number;

        Thing(int shape, int place) {
            this.shape = shape;
            this.place = place;
        }
    }

    private static final class Fault1 extends RuntimeException {
        private static final long serialVersionUID = 1;
        final int place;

        Fault1(int place) {
            super(null, null, false, false);
            this.place = place;
        }
    }

    private List<int[]> shapes = new ArrayList<>();
    private final Deque<List<int[]>> kept = new ArrayDeque<>();
    private boolean ready;
    private boolean[] zero;
    private String tape = "", out = "";
    private boolean read;
    private int fault, size, bytes;
    private final Map<Integer, BigInteger> memo = new HashMap<>();

    // ---- shapes

    private static boolean fits(int kind, int a, int b) {
        boolean pa = 0 <= a && a <= 15, pb = 0 <= b && b <= 15;
        return switch (kind) {
            case 0 -> 1 <= a && a <= 9 && 0 <= b && b <= 25;
            case 1 -> a == 0 && b == 0;
            case 2, 3 -> pa && pb;
            case 4, 5, 6 -> pa && b == 0;
            case 7 -> pa && isCut(b);
            case 8 -> 1 <= a && a <= 8 && b == 0;
            default -> false;
        };
    }

    private static boolean isCut(int b) {
        for (int low = 0; low <= 24; low++) {
            for (int high = low; high <= 24; high++) {
                if (b == 32 * low + high) {
                    return true;
                }
            }
        }
        return false;
    }

    private void change(List<int[]> next) {
        kept.addLast(shapes);
        if (kept.size() > 8) {
            kept.removeFirst();
        }
        shapes = next;
        ready = false;
        memo.clear();
    }

    long shape(int kind, int a, int b) {
        if (!fits(kind, a, b)) {
            return BAD;
        }
        if (shapes.size() == 16) {
            return FULL;
        }
        List<int[]> next = new ArrayList<>(shapes);
        next.add(new int[] {kind, a, b});
        change(next);
        return shapes.size() - 1;
    }

    private boolean has(int x) {
        return 0 <= x && x < shapes.size();
    }

    long put(int x, int kind, int a, int b) {
        if (!has(x) || !fits(kind, a, b)) {
            return BAD;
        }
        List<int[]> next = new ArrayList<>(shapes);
        next.set(x, new int[] {kind, a, b});
        change(next);
        return 0;
    }

    long undo() {
        if (kept.isEmpty()) {
            return NO;
        }
        shapes = kept.removeLast();
        ready = false;
        memo.clear();
        return kept.size();
    }

    long about(int x, int what) {
        return has(x) && 0 <= what && what <= 2 ? shapes.get(x)[what] : BAD;
    }

    List<int[]> shapes() {
        return shapes;
    }

    /** Takes over what another one with the same SHAPES has counted. */
    void learn(Model other) {
        memo.putAll(other.memo);
    }

    private int kind(int x) {
        return shapes.get(x)[0];
    }

    private int a(int x) {
        return shapes.get(x)[1];
    }

    private int b(int x) {
        return shapes.get(x)[2];
    }

    private List<Integer> partsOf(int x) {
        return switch (kind(x)) {
            case 2, 3 -> List.of(a(x), b(x));
            case 4, 5, 6, 7 -> List.of(a(x));
            default -> List.of();
        };
    }

    long ready() {
        int n = shapes.size();
        for (int x = 0; x < n; x++) {
            for (int p : partsOf(x)) {
                if (!has(p)) {
                    return 16 + x;
                }
            }
        }
        zero = zeros(n);
        for (int x = 0; x < n; x++) {
            if (kind(x) >= 4 && kind(x) <= 6 && zero[a(x)]) {
                return 32 + x;
            }
        }
        for (int x = 0; x < n; x++) {
            if (reaches(x, x, zero, new boolean[n])) {
                return 48 + x;
            }
        }
        ready = true;
        return 0;
    }

    private boolean[] zeros(int n) {
        boolean[] zero = new boolean[n];
        boolean grew = true;
        while (grew) {
            grew = false;
            for (int x = 0; x < n; x++) {
                boolean can = switch (kind(x)) {
                    case 1, 4, 5, 6 -> true;
                    case 2 -> zero[a(x)] && zero[b(x)];
                    case 3 -> zero[a(x)] || zero[b(x)];
                    case 7 -> b(x) / 32 == 0 && zero[a(x)];
                    default -> false;
                };
                grew |= can && !zero[x];
                zero[x] |= can;
            }
        }
        return zero;
    }

    private boolean reaches(int from, int to, boolean[] zero, boolean[] seen) {
        List<Integer> next = new ArrayList<>(partsOf(from));
        if (kind(from) == 2) {
            next.clear();
            if (zero[b(from)]) {
                next.add(a(from));
            }
            if (zero[a(from)]) {
                next.add(b(from));
            }
        }
        for (int y : next) {
            if (y == to) {
                return true;
            }
            if (!seen[y]) {
                seen[y] = true;
                if (reaches(y, to, zero, seen)) {
                    return true;
                }
            }
        }
        return false;
    }

    // ---- counting

    private boolean isSize(int s) {
        return 0 <= s && s <= 24;
    }

    private static long told(BigInteger n) {
        return n.compareTo(LIMIT) >= 0 ? MANY : n.longValueExact();
    }

    BigInteger exact(int x, int n) {
        if (n < 0) {
            return BigInteger.ZERO;
        }
        BigInteger known = memo.get(x * 25 + n);
        if (known == null) {
            known = reckon(x, n);
            memo.put(x * 25 + n, known);
        }
        return known;
    }

    private BigInteger bool(boolean b) {
        return b ? BigInteger.ONE : BigInteger.ZERO;
    }

    private BigInteger reckon(int x, int n) {
        return switch (kind(x)) {
            case 0 -> bool(n == a(x));
            case 1 -> bool(n == 0);
            case 2 -> both(a(x), b(x), n, n);
            case 3 -> exact(a(x), n).add(exact(b(x), n));
            case 4 -> n == 0 ? BigInteger.ONE : rows(x, n, n);
            case 5, 6 -> bags(kind(x) == 5, n, countsUpTo(a(x), n));
            case 7 -> n >= b(x) / 32 && n <= b(x) % 32 ? exact(a(x), n) : BigInteger.ZERO;
            default -> n == a(x) ? factorial(n) : BigInteger.ZERO;
        };
    }

    private static BigInteger factorial(int n) {
        BigInteger f = BigInteger.ONE;
        for (int i = 2; i <= n; i++) {
            f = f.multiply(BigInteger.valueOf(i));
        }
        return f;
    }

    /** Pairs of SIZE n whose first is of SIZE last at most; 0 factors are not asked further. */
    private BigInteger both(int p, int q, int n, int last) {
        BigInteger sum = BigInteger.ZERO;
        for (int i = 0; i <= last; i++) {
            if (i == 0 && !zero[p] || i == n && !zero[q]) {
                continue;
            }
            sum = sum.add(exact(p, i).multiply(exact(q, n - i)));
        }
        return sum;
    }

    private BigInteger rows(int x, int n, int last) {
        BigInteger sum = BigInteger.ZERO;
        for (int i = 1; i <= last; i++) {
            sum = sum.add(exact(a(x), i).multiply(exact(x, n - i)));
        }
        return sum;
    }

    private BigInteger[] countsUpTo(int x, int n) {
        BigInteger[] counts = new BigInteger[n + 1];
        for (int i = 0; i <= n; i++) {
            counts[i] = i == 0 ? BigInteger.ZERO : exact(x, i);
        }
        return counts;
    }

    /** Multisets (or sets) of SIZE n out of c[s] things of each SIZE s, by Euler's transform. */
    private static BigInteger bags(boolean alike, int n, BigInteger[] c) {
        BigInteger[] power = new BigInteger[n + 1];
        for (int k = 1; k <= n; k++) {
            power[k] = BigInteger.ZERO;
            for (int d = 1; d <= k; d++) {
                if (k % d == 0) {
                    BigInteger term = c[d].multiply(BigInteger.valueOf(d));
                    boolean minus = !alike && k / d % 2 == 0;
                    power[k] = minus ? power[k].subtract(term) : power[k].add(term);
                }
            }
        }
        BigInteger[] all = new BigInteger[n + 1];
        all[0] = BigInteger.ONE;
        for (int m = 1; m <= n; m++) {
            BigInteger sum = BigInteger.ZERO;
            for (int k = 1; k <= m; k++) {
                sum = sum.add(power[k].multiply(all[m - k]));
            }
            all[m] = sum.divide(BigInteger.valueOf(m));
        }
        return all[n];
    }

    private BigInteger bagsBelow(int x, int n, int s, BigInteger r) {
        BigInteger[] counts = countsUpTo(a(x), n);
        for (int i = s; i <= n; i++) {
            counts[i] = i == s ? r : BigInteger.ZERO;
        }
        return bags(kind(x) == 5, n, counts);
    }

    long count(int x, int n) {
        return !has(x) || !isSize(n) ? BAD : !ready ? NO : told(exact(x, n));
    }

    long upTo(int x, int n) {
        if (!has(x) || !isSize(n)) {
            return BAD;
        }
        if (!ready) {
            return NO;
        }
        BigInteger sum = BigInteger.ZERO;
        for (int i = 0; i <= n; i++) {
            sum = sum.add(exact(x, i));
        }
        return told(sum);
    }

    long parts(int x, int y, int n) {
        if (!has(x) || !has(y) || !isSize(n)) {
            return BAD;
        }
        if (!ready) {
            return NO;
        }
        for (int i = 0; i <= n; i++) {
            if (told(exact(x, i)) != told(exact(y, i))) {
                return i;
            }
        }
        return NONE;
    }

    long thing(int x, int n, long number) {
        if (!has(x) || !isSize(n) || number < 0 || number >= LIMIT.longValueExact()) {
            return BAD;
        }
        if (!ready) {
            return NO;
        }
        BigInteger left = BigInteger.valueOf(number);
        if (left.compareTo(exact(x, n)) >= 0) {
            return NONE;
        }
        StringBuilder text = new StringBuilder();
        write(x, n, left, text);
        if (text.length() > 300) {
            return FULL;
        }
        out = text.toString();
        return out.length();
    }

    String written(int x, int n, BigInteger number) {
        StringBuilder text = new StringBuilder();
        write(x, n, number, text);
        return text.toString();
    }

    private void write(int x, int n, BigInteger number, StringBuilder text) {
        // Longer ones are refused all the same, and may be far longer.
        if (text.length() > 300) {
            return;
        }
        switch (kind(x)) {
            case 0 -> text.append((char) ('a' + b(x)));
            case 1 -> text.append('.');
            case 2 -> {
                text.append('(');
                int i = 0;
                while (number.compareTo(both(a(x), b(x), n, i)) >= 0) {
                    i++;
                }
                BigInteger[] qr = number.subtract(both(a(x), b(x), n, i - 1)).divideAndRemainder(exact(b(x), n - i));
                write(a(x), i, qr[0], text);
                write(b(x), n - i, qr[1], text);
                text.append(')');
            }
            case 3 -> {
                BigInteger first = exact(a(x), n);
                boolean one = number.compareTo(first) < 0;
                text.append(one ? '1' : '2');
                write(one ? a(x) : b(x), n, one ? number : number.subtract(first), text);
            }
            case 4, 5, 6 -> writeAll(x, n, number, text);
            case 7 -> write(a(x), n, number, text.append('!'));
            default -> {
                text.append('=');
                List<Character> letters = new ArrayList<>();
                for (int i = 0; i < n; i++) {
                    letters.add((char) ('a' + i));
                }
                int left = number.intValueExact();
                for (int i = n - 1; i >= 0; i--) {
                    int f = factorial(i).intValueExact();
                    text.append(letters.remove(left / f).charValue());
                    left %= f;
                }
            }
        }
    }

    private void writeAll(int x, int n, BigInteger number, StringBuilder text) {
        text.append(OPEN.charAt(kind(x)));
        int size = n;
        BigInteger left = number;
        while (size > 0 && text.length() <= 300) {
            int s = 1;
            if (kind(x) == 4) {
                while (left.compareTo(rows(x, size, s)) >= 0) {
                    s++;
                }
                BigInteger[] qr = left.subtract(rows(x, size, s - 1)).divideAndRemainder(exact(x, size - s));
                write(a(x), s, qr[0], text);
                left = qr[1];
            } else {
                while (left.compareTo(bagsBelow(x, size, s, exact(a(x), s))) >= 0) {
                    s++;
                }
                BigInteger low = BigInteger.ZERO, high = exact(a(x), s);
                while (high.subtract(low).compareTo(BigInteger.ONE) > 0) {
                    BigInteger middle = low.add(high).shiftRight(1);
                    if (bagsBelow(x, size, s, middle).compareTo(left) <= 0) {
                        low = middle;
                    } else {
                        high = middle;
                    }
                }
                write(a(x), s, low, text);
                left = left.subtract(bagsBelow(x, size, s, low));
            }
            size -= s;
        }
        text.append(CLOSE.charAt(kind(x)));
    }

    // ---- reading

    long feed(int a, int b, int c, int d, int e) {
        if (tape.length() > 280) {
            return FULL;
        }
        StringBuilder text = new StringBuilder(tape);
        for (int word : new int[] {a, b, c, d, e}) {
            for (int shift = 24; shift >= 0; shift -= 8) {
                text.append((char) (word >> shift & 255));
            }
        }
        tape = text.toString();
        return tape.length();
    }

    long trim(int n) {
        if (n < 0 || n > tape.length()) {
            return BAD;
        }
        tape = tape.substring(0, n);
        return n;
    }

    long again() {
        tape = out;
        return tape.length();
    }

    long read(int x) {
        String text = tape;
        tape = "";
        if (!has(x)) {
            return BAD;
        }
        if (!ready) {
            return NO;
        }
        read = true;
        bytes = text.length();
        size = -1;
        return judge(x, text);
    }

    private long judge(int x, String text) {
        Thing thing;
        try {
            int[] at = {0};
            thing = take(x, text, at);
            if (at[0] < text.length()) {
                throw new Fault1(at[0]);
            }
        } catch (Fault1 f) {
            fault = 1;
            return -100 - f.place;
        }
        int cut = brokenCut(thing);
        if (cut >= 0) {
            fault = 2;
            return -100 - cut;
        }
        if (thing.size > 24) {
            fault = 4;
            return -100;
        }
        size = thing.size;
        fault = 0;
        if (manyWithin(thing)) {
            return MANY;
        }
        int twin = twinWithin(thing);
        if (twin >= 0) {
            fault = 3;
            return -100 - twin;
        }
        return told(number(thing));
    }

    /** Any writing of a SHAPE, by its form alone. */
    Thing take(int x, String text, int[] at) {
        Thing t = new Thing(x, at[0]);
        int kind = kind(x);
        if (kind == 0) {
            eat((char) ('a' + b(x)), text, at);
            t.size = a(x);
        } else if (kind == 3) {
            char c = peek(text, at);
            if (c != '1' && c != '2') {
                throw new Fault1(at[0]);
            }
            at[0]++;
            t.choice = c - '0';
            t.kids.add(take(c == '1' ? a(x) : b(x), text, at));
        } else {
            eat(OPEN.charAt(kind), text, at);
            takeWithin(t, text, at);
        }
        for (Thing k : t.kids) {
            t.size += k.size;
        }
        return t;
    }

    private void takeWithin(Thing t, String text, int[] at) {
        int x = t.shape;
        switch (kind(x)) {
            case 2 -> {
                t.kids.add(take(a(x), text, at));
                t.kids.add(take(b(x), text, at));
                eat(')', text, at);
            }
            case 4, 5, 6 -> {
                while (peek(text, at) != CLOSE.charAt(kind(x))) {
                    t.kids.add(take(a(x), text, at));
                }
                at[0]++;
            }
            case 7 -> t.kids.add(take(a(x), text, at));
            case 8 -> {
                t.size = a(x);
                while (t.letters.length() < a(x)) {
                    char c = peek(text, at);
                    if (c < 'a' || c >= 'a' + a(x) || t.letters.indexOf(c) >= 0) {
                        throw new Fault1(at[0]);
                    }
                    t.letters += c;
                    at[0]++;
                }
            }
            default -> { }
        }
    }

    private static char peek(String text, int[] at) {
        if (at[0] >= text.length()) {
            throw new Fault1(at[0]);
        }
        return text.charAt(at[0]);
    }

    private static void eat(char c, String text, int[] at) {
        if (peek(text, at) != c) {
            throw new Fault1(at[0]);
        }
        at[0]++;
    }

    private int brokenCut(Thing t) {
        if (kind(t.shape) == 7 && (t.size < b(t.shape) / 32 || t.size > b(t.shape) % 32)) {
            return t.place;
        }
        for (Thing k : t.kids) {
            int cut = brokenCut(k);
            if (cut >= 0) {
                return cut;
            }
        }
        return -1;
    }

    /** The NUMBER of a THING, null if it has none. */
    BigInteger number(Thing t) {
        if (!t.numbered) {
            t.number = reckonNumber(t);
            t.numbered = true;
        }
        return t.number;
    }

    private BigInteger reckonNumber(Thing t) {
        int x = t.shape;
        List<BigInteger> numbers = new ArrayList<>();
        for (Thing k : t.kids) {
            BigInteger n = number(k);
            if (n == null) {
                return null;
            }
            numbers.add(n);
        }
        if (kind(x) == 6 && twinHere(t) >= 0) {
            return null;
        }
        return switch (kind(x)) {
            case 2 -> {
                int head = t.kids.get(0).size;
                yield both(a(x), b(x), t.size, head - 1)
                    .add(numbers.get(0).multiply(exact(b(x), t.size - head))).add(numbers.get(1));
            }
            case 3 -> t.choice == 1 ? numbers.get(0) : exact(a(x), t.size).add(numbers.get(0));
            case 4 -> {
                BigInteger sum = BigInteger.ZERO;
                int left = t.size;
                for (int i = 0; i < numbers.size(); i++) {
                    int head = t.kids.get(i).size;
                    sum = sum.add(rows(x, left, head - 1)).add(numbers.get(i).multiply(exact(x, left - head)));
                    left -= head;
                }
                yield sum;
            }
            case 5, 6 -> {
                List<Integer> order = new ArrayList<>();
                for (int i = 0; i < numbers.size(); i++) {
                    order.add(i);
                }
                order.sort((i, j) -> {
                    int bySize = Integer.compare(t.kids.get(j).size, t.kids.get(i).size);
                    return bySize != 0 ? bySize : numbers.get(j).compareTo(numbers.get(i));
                });
                BigInteger sum = BigInteger.ZERO;
                int left = t.size;
                for (int i : order) {
                    sum = sum.add(bagsBelow(x, left, t.kids.get(i).size, numbers.get(i)));
                    left -= t.kids.get(i).size;
                }
                yield sum;
            }
            case 7 -> numbers.get(0);
            case 8 -> {
                BigInteger sum = BigInteger.ZERO;
                for (int i = 0; i < t.size; i++) {
                    int smaller = 0;
                    for (int j = i + 1; j < t.size; j++) {
                        smaller += t.letters.charAt(j) < t.letters.charAt(i) ? 1 : 0;
                    }
                    sum = sum.add(factorial(t.size - 1 - i).multiply(BigInteger.valueOf(smaller)));
                }
                yield sum;
            }
            default -> BigInteger.ZERO;
        };
    }

    private boolean manyWithin(Thing t) {
        for (Thing k : t.kids) {
            if (manyWithin(k)) {
                return true;
            }
            if (kind(t.shape) == 5 || kind(t.shape) == 6) {
                BigInteger n = number(k);
                if (n != null && n.compareTo(LIMIT) >= 0) {
                    return true;
                }
            }
        }
        return false;
    }

    private int twinHere(Thing t) {
        for (int i = 0; i < t.kids.size(); i++) {
            BigInteger n = number(t.kids.get(i));
            for (int j = 0; j < i && n != null; j++) {
                if (n.equals(number(t.kids.get(j))) && t.kids.get(j).size == t.kids.get(i).size) {
                    return t.kids.get(i).place;
                }
            }
        }
        return -1;
    }

    private int twinWithin(Thing t) {
        List<Integer> places = new ArrayList<>();
        collectTwins(t, places);
        return places.isEmpty() ? -1 : Collections.min(places);
    }

    private void collectTwins(Thing t, List<Integer> places) {
        if (kind(t.shape) == 6 && twinHere(t) >= 0) {
            places.add(twinHere(t));
        }
        for (Thing k : t.kids) {
            collectTwins(k, places);
        }
    }

    long found(int what) {
        if (what < 0 || what > 2) {
            return BAD;
        }
        if (!read) {
            return NONE;
        }
        return what == 0 ? fault : what == 2 ? bytes : size < 0 ? NONE : size;
    }

    long out(int i) {
        return 0 <= i && i < out.length() ? out.charAt(i) : NONE;
    }

    long state(int what) {
        return switch (what) {
            case 0 -> shapes.size();
            case 1 -> tape.length();
            case 2 -> out.length();
            case 3 -> kept.size();
            case 4 -> ready ? 1 : 0;
            default -> BAD;
        };
    }

    // ---- brute force, by the words of THE ORDER

    /** All THINGS of a SHAPE and SIZE in THE ORDER; null if there are more than most. */
    List<Thing> all(int x, int n, int most) {
        if (exact(x, n).compareTo(BigInteger.valueOf(most)) > 0) {
            return null;
        }
        List<Thing> things = make(x, n);
        things.sort(this::compare);
        return things;
    }

    private List<Thing> make(int x, int n) {
        List<Thing> things = new ArrayList<>();
        if (exact(x, n).signum() == 0) {
            return things;
        }
        switch (kind(x)) {
            case 0, 1 -> things.add(leaf(x, n, ""));
            case 2 -> {
                for (int i = 0; i <= n; i++) {
                    boolean some = exact(a(x), i).signum() > 0 && exact(b(x), n - i).signum() > 0;
                    for (Thing p : some ? make(a(x), i) : List.<Thing>of()) {
                        for (Thing q : make(b(x), n - i)) {
                            things.add(whole(x, 0, List.of(p, q)));
                        }
                    }
                }
            }
            case 3 -> {
                make(b(x), n).forEach(q -> things.add(whole(x, 2, List.of(q))));
                make(a(x), n).forEach(p -> things.add(whole(x, 1, List.of(p))));
            }
            case 4, 5, 6 -> {
                for (List<Thing> row : sequences(a(x), n)) {
                    if (kind(x) == 4 || falls(row, kind(x) == 6)) {
                        things.add(whole(x, 0, row));
                    }
                }
            }
            case 7 -> make(a(x), n).forEach(p -> things.add(whole(x, 0, List.of(p))));
            default -> permute("", "abcdefgh".substring(0, n), things, x);
        }
        return things;
    }

    private void permute(String done, String left, List<Thing> things, int x) {
        if (left.isEmpty()) {
            things.add(leaf(x, done.length(), done));
        }
        for (int i = left.length() - 1; i >= 0; i--) {
            permute(done + left.charAt(i), left.substring(0, i) + left.substring(i + 1), things, x);
        }
    }

    private List<List<Thing>> sequences(int part, int n) {
        List<List<Thing>> rows = new ArrayList<>();
        if (n == 0) {
            rows.add(List.of());
        }
        for (int i = 1; i <= n; i++) {
            if (exact(part, i).signum() == 0) {
                continue;
            }
            List<List<Thing>> tails = sequences(part, n - i);
            for (Thing head : tails.isEmpty() ? List.<Thing>of() : make(part, i)) {
                for (List<Thing> tail : tails) {
                    List<Thing> row = new ArrayList<>(List.of(head));
                    row.addAll(tail);
                    rows.add(row);
                }
            }
        }
        return rows;
    }

    private boolean falls(List<Thing> row, boolean unlike) {
        for (int i = 1; i < row.size(); i++) {
            int c = compare(row.get(i - 1), row.get(i));
            if (c < 0 || unlike && c == 0) {
                return false;
            }
        }
        return true;
    }

    private static Thing leaf(int x, int n, String letters) {
        Thing t = new Thing(x, 0);
        t.size = n;
        t.letters = letters;
        return t;
    }

    private static Thing whole(int x, int choice, List<Thing> kids) {
        Thing t = new Thing(x, 0);
        t.choice = choice;
        for (Thing k : kids) {
            t.kids.add(k);
            t.size += k.size;
        }
        return t;
    }

    private int compare(Thing p, Thing q) {
        if (p.size != q.size) {
            return Integer.compare(p.size, q.size);
        }
        if (p.choice != q.choice) {
            return Integer.compare(p.choice, q.choice);
        }
        for (int i = 0; i < p.kids.size() && i < q.kids.size(); i++) {
            int c = compare(p.kids.get(i), q.kids.get(i));
            if (c != 0) {
                return c;
            }
        }
        return p.letters.compareTo(q.letters);
    }

    String text(Thing t) {
        int kind = kind(t.shape);
        StringBuilder s = new StringBuilder();
        if (kind == 0) {
            s.append((char) ('a' + b(t.shape)));
        } else if (kind == 3) {
            s.append(t.choice);
        } else {
            s.append(OPEN.charAt(kind)).append(t.letters);
        }
        t.kids.forEach(k -> s.append(text(k)));
        if (CLOSE.charAt(kind) != '?') {
            s.append(CLOSE.charAt(kind));
        }
        return s.toString();
    }

    boolean isBag(Thing t) {
        return kind(t.shape) == 5 || kind(t.shape) == 6;
    }

    @Override
    public String toString() {
        StringBuilder s = new StringBuilder();
        shapes.forEach(sh -> s.append(Arrays.toString(sh)));
        return s.toString();
    }
}
