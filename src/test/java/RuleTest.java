import java.io.IOException;
import java.nio.charset.StandardCharsets;
import java.nio.file.Files;
import java.nio.file.Path;
import java.util.ArrayList;
import java.util.Arrays;
import java.util.List;
import java.util.Map;
import java.util.Set;
import java.util.TreeMap;
import java.util.TreeSet;
import java.util.regex.Matcher;
import java.util.regex.Pattern;

/** The rules of LANGUAGE.md that can be seen in the program's text: run from the project's folder, as .ci/run does. */
public final class RuleTest {
    private static final Path PROGRAM = Path.of("src/main/java/PainPorters.java");
    private static final int MOST_LINES = 60;
    private static final int MOST_DEEP = 8;
    private static final Pattern BEGINS =
            Pattern.compile("^( {4}| {8})(?! |if|for|while|do|switch|return|else|\\})[\\w\\[\\] ]+\\([^;]*\\{$");
    private static int wrong = 0;

    private static void check(boolean good, String what) {
        if (!good) {
            wrong++;
            System.out.println("RuleTest: " + what);
        }
    }

    /** The text without comments and without what stands in quotes. */
    private static String code(String text) {
        return text.replaceAll("(?s)/\\*.*?\\*/", "").replaceAll("//[^\n]*", "").replaceAll("\"[^\"\n]*\"", "\"\"")
                .replaceAll("'(\\\\.|[^'\\\\])'", "' '");
    }

    private static void has(String code, String pattern, String what) {
        Matcher m = Pattern.compile(pattern).matcher(code);
        check(!m.find(), what + (m.reset().find() ? ": " + m.group() : ""));
    }

    private static void only(String code, String pattern, List<String> allowed, String what) {
        Matcher m = Pattern.compile(pattern).matcher(code);
        while (m.find()) {
            check(allowed.contains(m.group(1)), what + ": " + m.group(1));
        }
    }

    private static void words(String code) {
        has(code, "->|::", "rule 2: a lambda or a method reference");
        has(code, "\\b(synchronized|assert|finally|native|volatile|transient|var)\\b", "rule 6: a word that may not come");
        has(code, "\\bpackage\\b", "no package");
        has(code, "\\w+Exact\\b", "rule 4: a function that ends in Exact");
        has(code, "\\bcatch\\b", "the program catches nothing");
        has(code, "\"\" *\\+|\\+ *\"\"", "rule 10: texts joined by +");
        has(code, "\\bstatic *\\{", "rule 5: a static initialiser");
        has(code, "\\bstatic (?!final|boolean \\w+\\(|int \\w+\\(|long \\w+\\(|void \\w+\\()(?!class)\\w+ \\w+", "rule 5: a static field");
        has(code, "\\b(double|float)\\b", "no fractions are needed");
        only(code, "import ([\\w.*]+);", List.of("java.util.NoSuchElementException"), "rule 4: an import");
        only(code, "throw new (\\w+)", List.of("NoSuchElementException"), "the document names no such exception");
        only(code, "\\bMath\\.(\\w+)", List.of("min", "max"), "rule 4: of Math");
        only(code, "\\bSystem\\.(\\w+)", List.of("arraycopy"), "rule 4: of System");
        only(code, "\\bInteger\\.(\\w+)", List.of("bitCount"), "rule 4: of Integer");
    }

    /** The methods by name, each with the lines from its head to its end; those of one name are one. */
    private static Map<String, List<String>> methods(String text) {
        Map<String, List<String>> all = new TreeMap<>();
        List<String> lines = Arrays.asList(text.split("\n"));
        for (int i = 0; i < lines.size(); i++) {
            Matcher m = BEGINS.matcher(lines.get(i));
            if (m.matches()) {
                int end = lines.subList(i, lines.size()).indexOf(m.group(1) + "}");
                check(end >= 0 && end < MOST_LINES, "rule 11: a long method: " + lines.get(i).trim());
                String name = lines.get(i).replaceAll("\\(.*", "").replaceAll(".* ", "");
                all.merge(name, lines.subList(i + 1, i + Math.max(end, 1)), (one, other) -> {
                    List<String> both = new ArrayList<>(one);
                    both.addAll(other);
                    return both;
                });
            }
        }
        return all;
    }

    /** How deep calls go from a method on, itself counted; what is open already may not be called again. */
    private static int depth(Map<String, List<String>> methods, String name, Set<String> open) {
        if (!open.add(name)) {
            check(false, "rule 8: recursion at " + name);
            return 0;
        }
        int deepest = 0;
        Set<String> called = new TreeSet<>();
        for (String line : methods.get(name)) {
            Matcher m = Pattern.compile("\\b([a-z]\\w*)\\(").matcher(line);
            while (m.find()) {
                if (methods.containsKey(m.group(1)) && called.add(m.group(1))) {
                    deepest = Math.max(deepest, depth(methods, m.group(1), open));
                }
            }
        }
        open.remove(name);
        return deepest + 1;
    }

    private static void depths(Map<String, List<String>> methods) {
        check(methods.size() > 100, "methods are not found: " + methods.size());
        for (String name : methods.keySet()) {
            int deep = depth(methods, name, new TreeSet<>());
            check(deep <= MOST_DEEP, "rule 11: calls go " + deep + " deep from " + name);
        }
    }

    public static void main(String[] args) throws IOException {
        String text = Files.readString(PROGRAM, StandardCharsets.ISO_8859_1);
        check(text.chars().allMatch(c -> c == '\n' || c >= 32 && c < 127), "a sign that is none of 32 to 126");
        words(code(text));
        depths(methods(code(text)));
        System.out.println(wrong == 0 ? "the text keeps to the rules" : wrong + " faults of the text");
        if (wrong != 0) {
            System.exit(1);
        }
    }
}
