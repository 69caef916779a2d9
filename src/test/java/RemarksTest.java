import java.io.IOException;
import java.nio.file.Files;
import java.nio.file.Path;
import java.util.ArrayList;
import java.util.Arrays;
import java.util.LinkedHashMap;
import java.util.List;
import java.util.Map;
import java.util.TreeMap;
import java.util.regex.Matcher;
import java.util.regex.Pattern;
import java.util.stream.Stream;

/**
 * Each test of an edge says in its remark which promise (or term) and which sentence it is for: the sentence is quoted as
 * the document has it, and no sentence of the terms and promises is left without a test.
 */
public final class RemarksTest {
    private static final Path DOCUMENT = Path.of("../shared/DOC.md"), TESTS = Path.of("src/test/java");
    private static final String REMARK = "(/\\*\\*(?:(?!\\*/).)*\\*/\\s*)?";
    private static final Pattern TEST = Pattern.compile(REMARK + "private static void (\\w+)\\(\\) \\{", Pattern.DOTALL);
    private static final Pattern NAMED = Pattern.compile("(Promise \\d+|Terms \\d|Terms|What it is|Not promised)|\"([^\"]*)\"");
    private static int wrong;

    private static void tell(String fault) {
        wrong++;
        System.out.println(fault);
    }

    public static void main(String[] args) throws IOException {
        if (!Files.isReadable(DOCUMENT)) {
            System.out.println("the document is not here: the remarks are not compared with it");
            return;
        }
        Map<String, String> sections = sections(plain(Files.readString(DOCUMENT)));
        Map<String, boolean[]> quoted = new TreeMap<>();
        sections.forEach((name, text) -> quoted.put(name, new boolean[text.length()]));
        int tests = 0;
        for (Path file : files()) {
            tests += remarks(file, sections, quoted);
        }
        sections.forEach((name, text) -> {
            if (name.startsWith("Promise") || name.startsWith("Terms")) {
                dueQuoted(name, text, quoted.get(name));
            }
        });
        System.out.println(tests + " remarks on " + sections.size() + " sections, " + wrong + " are wrong or missing");
        if (wrong != 0 || tests == 0) {
            System.exit(1);
        }
    }

    private static List<Path> files() throws IOException {
        try (Stream<Path> all = Files.list(TESTS)) {
            return all.filter(f -> f.toString().matches(".*(Edges|Refusals)Test\\.java")).sorted().toList();
        }
    }

    private static String plain(String text) {
        return text.replaceAll("\\s+", " ");
    }

    private static Map<String, String> sections(String document) {
        Map<String, String> sections = new LinkedHashMap<>();
        sections.put("What it is", between(document, "## What it is", "## The public face"));
        sections.put("Terms", between(document, "## Terms", "======== 1"));
        sections.put("Terms 1", between(document, "======== 1", "======== 2"));
        sections.put("Terms 2", between(document, "======== 2", "======== 3"));
        sections.put("Terms 3", between(document, "======== 3", "Ahead of the calls"));
        for (int n = 1; n <= 17; n++) {
            String rest = between(document, "## Promise " + n + ":", "## ");
            sections.put("Promise " + n, rest.substring(rest.lastIndexOf("`: ") + 3));
        }
        sections.put("Not promised", document.substring(document.indexOf("## Not promised")));
        return sections;
    }

    private static String between(String text, String from, String to) {
        int start = text.indexOf(from) + from.length();
        return text.substring(start, text.indexOf(to, start));
    }

    private static int remarks(Path file, Map<String, String> sections, Map<String, boolean[]> quoted) throws IOException {
        Matcher test = TEST.matcher(Files.readString(file));
        int tests = 0;
        while (test.find()) {
            tests++;
            String name = file.getFileName() + ", " + test.group(2);
            if (test.group(1) == null) {
                tell(name + " has no remark");
            } else {
                remark(name, plain(test.group(1).replaceAll("\\n\\s*\\*", " ")), sections, quoted);
            }
        }
        return tests;
    }

    /** A quotation is of the section that was named latest ahead of it. */
    private static void remark(String test, String remark, Map<String, String> sections, Map<String, boolean[]> quoted) {
        String section = "";
        List<String> quotations = new ArrayList<>();
        Matcher m = NAMED.matcher(remark);
        while (m.find()) {
            if (m.group(1) != null) {
                section = m.group(1);
                continue;
            }
            quotations.add(m.group(2));
            int at = sections.getOrDefault(section, "").indexOf(m.group(2));
            if (at < 0) {
                tell(test + ": " + section + " has no \"" + m.group(2) + "\"");
            }
            while (at >= 0) {
                Arrays.fill(quoted.get(section), at, at + m.group(2).length(), true);
                at = sections.get(section).indexOf(m.group(2), at + 1);
            }
        }
        if (quotations.isEmpty()) {
            tell(test + " quotes no sentence");
        }
    }

    /** Only signs that join sentences may stand outside of all quotations. */
    private static void dueQuoted(String section, String text, boolean[] quoted) {
        StringBuilder left = new StringBuilder();
        for (int i = 0; i < text.length(); i++) {
            left.append(quoted[i] ? '\n' : text.charAt(i));
        }
        for (String piece : left.toString().replace("```text", "").replace("```", "").split("\n+")) {
            if (piece.matches(".*\\w.*")) {
                tell(section + ": no test is for \"" + piece.strip() + "\"");
            }
        }
    }
}
