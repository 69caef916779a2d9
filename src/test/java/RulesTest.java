import java.lang.management.ManagementFactory;
import java.lang.reflect.Constructor;
import java.lang.reflect.Executable;
import java.lang.reflect.Field;
import java.lang.reflect.Method;
import java.lang.reflect.Modifier;
import java.nio.file.Files;
import java.nio.file.Path;
import java.util.Arrays;
import java.util.List;
import java.util.Set;
import java.util.TreeSet;
import java.util.regex.Matcher;
import java.util.regex.Pattern;
import java.util.stream.Collectors;

/** The face of the document, and rules of LANGUAGE.md that can be seen from the class and its source. */
public final class RulesTest {
    private static final List<String> FACE = List.of("shape(int, int, int)", "put(int, int, int, int)", "undo()",
        "about(int, int)", "ready()", "count(int, int)", "upTo(int, int)", "parts(int, int, int)", "thing(int, int, long)",
        "feed(int, int, int, int, int)", "trim(int)", "again()", "read(int)", "found(int)", "out(int)", "state(int)");
    private static final Set<String> CONSTANTS = Set.of("BAD", "NO", "FULL", "MANY", "NONE", "LIMIT");
    private static final String FORBIDDEN =
        "\\b(throw|throws|try|catch|finally|synchronized|assert|import|package|protected|instanceof|Exact)\\b|->|::|\\w+Exact\\b";
    private static int wrong;

    private static void must(boolean holds, String rule) {
        if (!holds) {
            wrong++;
            System.out.println("broken: " + rule);
        }
    }

    public static void main(String[] args) throws Exception {
        face();
        for (Class<?> c : ShapeHouse.class.getDeclaredClasses()) {
            inside(c);
        }
        must(ShapeHouse.class.getDeclaredClasses().length <= 11, "rule 11: some twelve classes");
        source(Files.readString(Path.of("src/main/java/ShapeHouse.java")));
        room();
        roomOfCalls();
        System.out.println(wrong == 0 ? "the rules are kept" : wrong + " rules are broken");
        if (wrong != 0) {
            System.exit(1);
        }
    }

    private static void face() {
        Class<?> c = ShapeHouse.class;
        must(Modifier.isFinal(c.getModifiers()) && Modifier.isPublic(c.getModifiers()), "rule 1: public and final");
        must(c.getSuperclass() == Object.class && c.getInterfaces().length == 0, "rule 1: the class alone");
        Set<String> methods = new TreeSet<>();
        for (Method m : c.getDeclaredMethods()) {
            if (!Modifier.isPrivate(m.getModifiers())) {
                methods.add(signature(m));
                must(m.getModifiers() == Modifier.PUBLIC && m.getReturnType() == long.class, "rule 1: public long " + signature(m));
            } else {
                must(!bearsNameOfFace(m), "rule 1: a private method with a name of the face: " + m);
            }
        }
        must(methods.equals(new TreeSet<>(FACE)), "rule 1: the methods of the face: " + methods);
        Constructor<?>[] makers = c.getDeclaredConstructors();
        must(makers.length == 1 && makers[0].getModifiers() == Modifier.PUBLIC && makers[0].getParameterCount() == 0, "rule 1: the constructor");
        for (Field f : c.getDeclaredFields()) {
            must(CONSTANTS.contains(f.getName()) ? isConstant(f) : Modifier.isPrivate(f.getModifiers()), "rule 1: " + f);
        }
        must(c.getFields().length == CONSTANTS.size(), "rule 1: the constants of the face");
        members(c);
    }

    private static String signature(Method m) {
        String types = Arrays.stream(m.getParameterTypes()).map(Class::getName).collect(Collectors.joining(", "));
        return m.getName() + "(" + types + ")";
    }

    private static boolean bearsNameOfFace(Method m) {
        return FACE.stream().anyMatch(s -> s.startsWith(m.getName() + "("));
    }

    private static boolean isConstant(Field f) {
        return f.getType() == long.class && f.getModifiers() == (Modifier.PUBLIC | Modifier.STATIC | Modifier.FINAL);
    }

    private static void inside(Class<?> c) {
        must(Modifier.isStatic(c.getModifiers()) && Modifier.isPrivate(c.getModifiers()), "rule 1: " + c);
        for (Method m : c.getDeclaredMethods()) {
            must(!bearsNameOfFace(m), "rule 1: a name of the face in " + c);
        }
        members(c);
    }

    private static void members(Class<?> c) {
        long fields = Arrays.stream(c.getDeclaredFields()).filter(f -> !Modifier.isStatic(f.getModifiers())).count();
        must(fields <= 20, "rule 11: fields of " + c);
        for (Field f : c.getDeclaredFields()) {
            must(!Modifier.isStatic(f.getModifiers()) || Modifier.isFinal(f.getModifiers()), "rule 5: " + f);
        }
        for (Method m : c.getDeclaredMethods()) {
            sevenAtMost(m);
        }
        for (Constructor<?> k : c.getDeclaredConstructors()) {
            sevenAtMost(k);
        }
    }

    private static void sevenAtMost(Executable e) {
        must(e.getParameterCount() <= 7, "rule 11: parameters of " + e);
    }

    private static void source(String text) {
        String code = text.replaceAll("(?s)/\\*.*?\\*/", "").replaceAll("//[^\n]*", "");
        Matcher m = Pattern.compile(FORBIDDEN).matcher(code);
        while (m.find()) {
            must(false, "rules 4 and 6: " + m.group());
        }
        must(text.chars().allMatch(ch -> ch < 128), "signs up to 127");
        int since = -1;
        String[] lines = text.split("\n");
        for (int i = 0; i < lines.length; i++) {
            if (lines[i].matches("    (    )?[\\w].*\\) \\{")) {
                since = i;
            } else if (lines[i].matches("    (    )?\\}") && since >= 0) {
                must(i - since <= 60, "rule 11: a long method from line " + (since + 1));
                since = -1;
            }
        }
    }

    /** 512 houses have to fit into one room of 7.3 million fields and elements. */
    private static void room() throws Exception {
        long[] sum = {0, 0};
        measure(new ShapeHouse(), new java.util.IdentityHashMap<>(), sum);
        must(sum[0] <= 1000 && sum[1] <= 14000, "rule 12: objects " + sum[0] + ", elements " + sum[1]);
    }

    private static void measure(Object o, java.util.Map<Object, Object> seen, long[] sum) throws Exception {
        if (o == null || seen.put(o, o) != null) {
            return;
        }
        sum[0]++;
        if (o.getClass().isArray()) {
            sum[1] += java.lang.reflect.Array.getLength(o);
            return;
        }
        for (Field f : o.getClass().getDeclaredFields()) {
            if (!Modifier.isStatic(f.getModifiers())) {
                sum[1]++;
                f.setAccessible(true);
                if (!f.getType().isPrimitive()) {
                    measure(f.get(o), seen, sum);
                }
            }
        }
    }

    /** The calls themselves make no objects. */
    private static void roomOfCalls() {
        com.sun.management.ThreadMXBean bean = (com.sun.management.ThreadMXBean) ManagementFactory.getThreadMXBean();
        ShapeHouse x = new ShapeHouse();
        manyCalls(x);
        long id = Thread.currentThread().getId();
        long before = bean.getThreadAllocatedBytes(id);
        manyCalls(x);
        long made = bean.getThreadAllocatedBytes(id) - before;
        must(made < 4096, "rule 12: the calls made " + made + " bytes");
    }

    private static void manyCalls(ShapeHouse x) {
        x.shape(0, 1, 19);
        x.shape(5, 2, 0);
        x.shape(2, 0, 1);
        x.shape(6, 2, 0);
        for (int i = 0; i < 25; i++) {
            x.put(0, 0, 1, i);
            x.ready();
            x.count(2, 24);
            x.thing(3, 20, 1000L * i);
            x.again();
            x.read(3);
            x.feed(1, 2, 3, 4, 5);
            x.read(2);
            x.undo();
            x.put(0, 0, 1, 3);
        }
    }
}
