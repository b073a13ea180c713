import java.io.IOException;
import java.nio.file.Files;
import java.nio.file.Path;
import java.util.Set;
import java.util.TreeSet;
import java.util.regex.Matcher;
import java.util.regex.Pattern;

/** The rules of LANGUAGE.md that can be told from the text of the class, each by its number. */
public final class RulesTest {
    private static final Path FILE = Path.of("src/main/java/LeafCradles.java");
    private static final int LONGEST_METHOD = 60;
    private static final int MOST_PARAMETERS = 7;
    private static final int MOST_CLASSES = 12;

    private static int wrong = 0;

    private static void fault(int rule, String text) {
        wrong++;
        System.out.println("rule " + rule + ": " + text);
    }

    private static Set<String> found(String pattern, String text) {
        Set<String> all = new TreeSet<>();
        Matcher matcher = Pattern.compile(pattern).matcher(text);
        while (matcher.find()) {
            all.add(matcher.group(matcher.groupCount()));
        }
        return all;
    }

    private static void none(int rule, String pattern, String code) {
        for (String one : found(pattern, code)) {
            fault(rule, "'" + one + "' stands in the class");
        }
    }

    private static void only(int rule, String pattern, String code, Set<String> allowed) {
        Set<String> others = found(pattern, code);
        others.removeAll(allowed);
        for (String one : others) {
            fault(rule, "'" + one + "' is not of those that the class may use");
        }
    }

    /** The text without comments, each written text and sign as an empty one. */
    private static String codeOf(String source) {
        return source.replaceAll("(?s)/\\*.*?\\*/", "").replaceAll("//[^\n]*", "")
            .replaceAll("\"[^\"\n]*\"", "\"\"").replaceAll("'[^'\n]+'", "' '");
    }

    private static void testWords(String code) {
        none(0, "\\b(package|import)\\b", code);
        none(2, "(->|::)", code);
        none(4, "\\b(\\w+Exact)\\b", code);
        none(6, "\\b(catch|finally|synchronized|assert|try)\\b", code);
        none(10, "(\\+ *\"\"|\"\" *\\+)", code);
        none(13, "\\b(Thread|Random|nanoTime|currentTimeMillis|getenv|getProperty|File|Files)\\b", code);
    }

    /** Only what this class needs of the library; what else rule 4 has may be added here. */
    private static void testLibrary(String code) {
        only(4, "\\b(?:Math|System)\\.(\\w+)", code, Set.of("max", "min", "abs", "arraycopy"));
        only(4, "\\b(?:new) ([A-Z]\\w*)", code, Set.of("Archive", "BarText", "LoadPlan", "Table",
            "IllegalArgumentException", "IllegalStateException", "IndexOutOfBoundsException"));
        only(4, "\\b([A-Z][a-z]\\w*)\\b", code, Set.of("LeafCradles", "Archive", "BarText", "LoadPlan", "Table", "Math", "System",
            "IllegalArgumentException", "IllegalStateException", "IndexOutOfBoundsException"));
    }

    private static void testStatics(String code) {
        for (String line : code.split("\n")) {
            if (line.matches("\\s*(public |private |protected )?static (?!final |class ).*[;=].*") && !line.contains("(")) {
                fault(5, "a static field that is not final: " + line.trim());
            }
            if (line.matches("\\s*static \\{.*")) {
                fault(5, "a static block");
            }
        }
        int classes = code.split("\\bclass \\w+", -1).length - 1;
        if (classes > MOST_CLASSES) {
            fault(11, classes + " classes");
        }
    }

    private static void testMethods(String code) {
        Pattern head = Pattern.compile("^( +)[\\w\\[\\]<> ]*\\b(\\w+)\\(([^()]*)\\)[\\w, ]*\\{$");
        String[] lines = code.split("\n");
        int seen = 0;
        for (int i = 0; i < lines.length; i++) {
            Matcher matcher = head.matcher(lines[i]);
            if (!matcher.matches() || Set.of("if", "for", "while", "switch").contains(matcher.group(2))) {
                continue;
            }
            seen++;
            int end = i;
            while (end < lines.length - 1 && !lines[end].equals(matcher.group(1) + "}")) {
                end++;
            }
            if (end - i >= LONGEST_METHOD) {
                fault(11, matcher.group(2) + " has " + (end - i + 1) + " lines");
            }
            if (matcher.group(3).split(",").length > MOST_PARAMETERS) {
                fault(11, matcher.group(2) + " has too many parameters");
            }
        }
        if (seen < 29) {
            fault(11, "only " + seen + " methods were seen");
        }
    }

    public static void main(String[] args) throws IOException {
        String code = codeOf(Files.readString(FILE));
        testWords(code);
        testLibrary(code);
        testStatics(code);
        testMethods(code);
        System.out.println(wrong == 0 ? "the rules are kept" : wrong + " things are not as the rules want them");
        if (wrong != 0) {
            System.exit(1);
        }
    }
}
