import java.io.IOException;
import java.lang.reflect.InvocationTargetException;
import java.lang.reflect.Method;
import java.lang.reflect.Modifier;
import java.nio.charset.StandardCharsets;
import java.nio.file.Files;
import java.nio.file.Path;
import java.util.ArrayList;
import java.util.List;
import java.util.regex.Matcher;
import java.util.regex.Pattern;

/** README.md's example answers as it says there: run from the project's folder, as .ci/run does. */
public final class ReadmeTest {
    private static final Path README = Path.of("README.md");
    private static final Path OWN_TEXT = Path.of("src/test/java/ReadmeTest.java");
    private static final Pattern PUT = Pattern.compile("put\\(x, \"([^\"]*)\"\\);");
    private static final Pattern CALL = Pattern.compile("x\\.(\\w+)\\(([-\\d, ]*)\\);\\s+// (-?\\w+).*");
    private static int calls = 0;
    private static int wrong = 0;

    static void put(PainPorters x, String text) {
        int bytes = x.count(5) + text.length();
        for (int i = 0; i < text.length(); i += 20) {
            x.feed(four(text, i), four(text, i + 4), four(text, i + 8), four(text, i + 12), four(text, i + 16));
        }
        x.end(bytes);
    }

    static int four(String text, int from) {
        int number = 0;
        for (int i = from; i < from + 4; i++) {
            number = number << 8 | (i < text.length() ? text.charAt(i) : 0);
        }
        return number;
    }

    private static void check(boolean good, String what) {
        if (!good) {
            wrong++;
            System.out.println("ReadmeTest: " + what);
        }
    }

    /** What stands between ```java and ```, block by block. */
    private static List<List<String>> blocks(List<String> lines) {
        List<List<String>> all = new ArrayList<>();
        List<String> block = null;
        for (String line : lines) {
            if (line.equals("```java")) {
                block = new ArrayList<>();
                all.add(block);
            } else if (line.equals("```")) {
                block = null;
            } else if (block != null) {
                block.add(line);
            }
        }
        return all;
    }

    private static Method called(String name) {
        for (Method m : PainPorters.class.getDeclaredMethods()) {
            if (m.getName().equals(name) && Modifier.isPublic(m.getModifiers())) {
                return m;
            }
        }
        throw new IllegalStateException("no call " + name);
    }

    private static String answer(PainPorters x, String name, String arguments) throws IllegalAccessException {
        String[] parts = arguments.isBlank() ? new String[0] : arguments.split(", ");
        Object[] numbers = new Object[parts.length];
        for (int i = 0; i < parts.length; i++) {
            numbers[i] = Integer.valueOf(parts[i]);
        }
        try {
            return String.valueOf(called(name).invoke(x, numbers));
        } catch (InvocationTargetException e) {
            return e.getCause().getClass().getSimpleName();
        }
    }

    private static void run(List<String> example) throws IllegalAccessException {
        PainPorters x = new PainPorters();
        check(example.get(0).equals("PainPorters x = new PainPorters();"), "the example begins by " + example.get(0));
        for (String line : example.subList(1, example.size())) {
            Matcher text = PUT.matcher(line);
            Matcher call = CALL.matcher(line);
            if (text.matches()) {
                put(x, text.group(1));
            } else if (call.matches()) {
                calls++;
                String got = answer(x, call.group(1), call.group(2));
                check(got.equals(call.group(3)), "the answer is " + got + ": " + line);
            } else {
                check(false, "neither a text nor a call: " + line);
            }
        }
    }

    public static void main(String[] args) throws IOException, IllegalAccessException {
        List<String> lines = Files.readAllLines(README, StandardCharsets.UTF_8);
        List<List<String>> blocks = blocks(lines);
        check(blocks.size() == 2, "two blocks of Java, but there are " + blocks.size());
        List<String> own = Files.readAllLines(OWN_TEXT, StandardCharsets.UTF_8);
        for (String line : blocks.get(0)) {
            check(line.isBlank() || own.contains("    " + line), "not as it was tried here: " + line);
        }
        run(blocks.get(1));
        check(calls > 20, "few calls: " + calls);
        String all = String.join("\n", lines);
        for (Method m : PainPorters.class.getDeclaredMethods()) {
            if (Modifier.isPublic(m.getModifiers())) {
                check(Pattern.compile("`" + m.getName() + "(\\(\\d\\))?`").matcher(all).find(), "not named: " + m.getName());
            }
        }
        System.out.println(wrong == 0 ? calls + " calls of README.md answer as it says" : wrong + " faults of README.md");
        if (wrong != 0) {
            System.exit(1);
        }
    }
}
