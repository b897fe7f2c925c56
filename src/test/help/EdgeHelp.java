import java.lang.reflect.InvocationTargetException;
import java.lang.reflect.Method;
import java.nio.ByteBuffer;
import java.nio.IntBuffer;
import java.nio.charset.StandardCharsets;
import java.util.Arrays;
import java.util.Comparator;
import java.util.NoSuchElementException;

/**
 * What the Edge..Tests have in common. They hold one test for each sentence of the document that names a boundary: too
 * small, too large, empty, full, a wrap-around, a refused call. Each is a method whose name begins with the number of
 * its promise; what stands in the "Terms" and behind "==== 2." and "==== 3." is tested under the promise that uses it.
 */
abstract class EdgeHelp {
    static final int NONE = PainPorters.NONE;
    static final int LOW = Integer.MIN_VALUE;
    static final int HIGH = Integer.MAX_VALUE;
    /** Numbers that no PERSON, PORTER, PAIN, SORT or what ever has; some are like 0 or 1 to a shift. */
    static final int[] NO_SUCH = {LOW, LOW + 1, -32, -2, -1, 10, 16, 20, 30, 32, 33, 64, 256, HIGH};
    static final String[] RESERVED = {"sort", "fixed", "talks", "person", "porter", "bars", "pain", "harm",
        "fetches", "drops", "hands", "home", "hour", "or", "and", "not", "carried", "lost", "over", "of", "with", "is",
        "weight", "left", "number"};

    static final String SMALL = "sort ache;sort grief;sort limp fixed;talks ache grief;person ann 10;person bob 3;"
            + "porter pim 6 2;porter rex 9 3;bars rex grief;pain tooth ann ache 4 5;pain loss ann grief 3 9;"
            + "pain leg bob limp 2 9;pain burn bob ache 5 4;harm 2;";
    static final String SORTS6 = "sort a;sort b;sort c;sort d;sort e;sort f;";
    static final String TALKS8 = "talks a b;talks a c;talks a d;talks a e;talks a f;talks b c;talks b d;talks b e;";
    static final String PERSONS5 = "person g 1;person h 2;person i 3;person j 4;person k 5;";
    static final String PORTERS5 = "porter l 11 1;porter m 12 2;porter n 13 3;porter o 14 4;porter p 15 5;";
    static final String BARS8 = "bars l a;bars l b;bars l c;bars l d;bars l e;bars l f;bars m a;bars m b;";
    static final String PAINS8 = "pain q g a 1 1;pain r h b 2 2;pain s i c 3 3;pain t j d 4 4;pain u k e 5 5;"
            + "pain v g f 6 6;pain w h a 7 7;pain x i b 8 8;";
    static final String FULL = SORTS6 + TALKS8 + PERSONS5 + PORTERS5 + BARS8 + PAINS8 + "harm 7;";
    /** One SORT, PERSON and PORTER, told ahead of a LINE that is tested. */
    static final String BASE = "sort s;person m 1;porter r 1 1;";
    /** One PORTER who carries all, for nothing; four PAINS that last. */
    static final String EASY = "sort s;person m 9;person n 9;porter r 40 0;"
            + "pain a m s 1 200;pain b m s 2 200;pain c n s 4 200;pain d n s 8 200;";

    static String test = "";
    static int checks = 0;
    static int wrong = 0;

    // ---- what is due

    static void due(String what, long got, long want) {
        checks++;
        if (got != want) {
            wrong++;
            System.out.println(test + ": " + what + " answered " + got + ", due is " + want);
        }
    }

    static void due(String what, boolean got, boolean want) {
        due(what, got ? 1 : 0, want ? 1 : 0);
    }

    static void due(String what, String got, String want) {
        checks++;
        if (!got.equals(want)) {
            wrong++;
            System.out.println(test + ": " + what + " is " + got + ", due is " + want);
        }
    }

    static void throwsNoSuchElement(String what, Runnable call) {
        boolean thrown = false;
        try {
            call.run();
        } catch (NoSuchElementException e) {
            thrown = e.getClass() == NoSuchElementException.class;
        }
        due(what + " throws NoSuchElementException", thrown, true);
    }

    // ---- texts

    static String times(int n, String text) {
        StringBuilder all = new StringBuilder();
        for (int i = 0; i < n; i++) {
            all.append(text);
        }
        return all.toString();
    }

    /** A text with blanks ahead of it, so that it has so many bytes. */
    static String wide(int bytes, String text) {
        return times(bytes - text.length(), " ") + text;
    }

    static void type(PainPorters x, String text) {
        byte[] bytes = Arrays.copyOf(text.getBytes(StandardCharsets.ISO_8859_1), 960);
        x.end(0);
        for (int i = 0; i < text.length(); i += 20) {
            IntBuffer n = ByteBuffer.wrap(bytes, i, 20).asIntBuffer();
            x.feed(n.get(), n.get(), n.get(), n.get(), n.get());
        }
        x.end(text.length());
    }

    static PainPorters of(String town) {
        PainPorters x = new PainPorters();
        type(x, town);
        int lines = x.town();
        if (lines < 0) {
            due("a TOWN of the test: " + town, lines, 0);
        }
        return x;
    }

    static int town(PainPorters x, String text) {
        type(x, text);
        return x.town();
    }

    static int log(PainPorters x, String text, int lives) {
        type(x, text);
        return x.log(lives);
    }

    static int sentence(PainPorters x, String text) {
        type(x, text);
        return x.sentence();
    }

    static int limps(PainPorters x, int... bytes) {
        StringBuilder text = new StringBuilder();
        for (int b : bytes) {
            text.append((char) b);
        }
        type(x, text.toString());
        return x.limps();
    }

    static void goodTown(String text, int lines) {
        PainPorters x = new PainPorters();
        due("town() of '" + text + "'", town(x, text), lines);
        due("fault() of '" + text + "'", x.fault(), 0);
    }

    static void badTown(String text, int place, int kind) {
        PainPorters x = new PainPorters();
        due("town() of '" + text + "'", town(x, text), -1 - place);
        due("fault() of '" + text + "'", x.fault(), kind);
    }

    static void goodLog(String text, int answer, int why) {
        PainPorters x = of(SMALL);
        due("log(0) of '" + text + "'", log(x, text, 0), answer);
        due("fault() of '" + text + "'", x.fault(), 0);
        due("logged(0) of '" + text + "'", x.logged(0), why);
    }

    static void badLog(String text, int place, int kind) {
        PainPorters x = of(SMALL);
        due("log(0) of '" + text + "'", log(x, text, 0), -2 - place);
        due("fault() of '" + text + "'", x.fault(), kind);
    }

    static void goodSentence(String text, int ones) {
        PainPorters x = of(SMALL);
        due("sentence() of '" + text + "'", sentence(x, text), ones);
        due("fault() of '" + text + "'", x.fault(), 0);
    }

    static void badSentence(String text, int place, int kind) {
        badSentenceOf(of(SMALL), text, place, kind);
    }

    static void badSentenceOf(PainPorters x, String text, int place, int kind) {
        due("sentence() of '" + text + "'", sentence(x, text), -1 - place);
        due("fault() of '" + text + "'", x.fault(), kind);
    }

    /** The PAINS of which a text may be said, one behind another. */
    static String saying(PainPorters x, String text) {
        int ones = sentence(x, text);
        return ones < 0 ? "FAULT " + x.fault() : said(x);
    }

    static String said(PainPorters x) {
        StringBuilder all = new StringBuilder();
        for (int k = 0; k < x.said(NONE); k++) {
            all.append(x.said(k));
        }
        return all.toString();
    }

    // ---- what is so

    static void drop(PainPorters x, int r, int... pains) {
        for (int p : pains) {
            due("a fetching of the test", x.fetch(r, p), 0);
            due("a dropping of the test", x.drop(r, p), 0);
        }
    }

    static void passTo(PainPorters x, int hour) {
        for (int i = 0; i < 11 && x.now(0) < hour; i++) {
            x.hours(Math.min(60, hour - x.now(0)));
        }
        due("the HOUR of the test", x.now(0), hour);
    }

    /** All that is so and can be seen, as a text. */
    static String look(PainPorters x) {
        StringBuilder all = new StringBuilder("now");
        for (int what = 0; what < 7; what++) {
            all.append(' ').append(x.now(what));
        }
        for (int what = 0; what < 6; what++) {
            all.append(what == 0 ? ", count " : " ").append(x.count(what));
        }
        for (int s = 0; s < x.count(0); s++) {
            all.append(", sort ").append(x.sort(s, 0)).append(' ').append(x.sort(s, 1));
        }
        for (int m = 0; m < x.count(1); m++) {
            for (int what = 0; what < 5; what++) {
                all.append(what == 0 ? ", person " : " ").append(x.person(m, what));
            }
        }
        for (int r = 0; r < x.count(2); r++) {
            for (int what = 0; what < 7; what++) {
                all.append(what == 0 ? ", porter " : " ").append(x.porter(r, what));
            }
        }
        for (int p = 0; p < x.count(3); p++) {
            for (int what = 0; what < 7; what++) {
                all.append(what == 0 ? ", pain " : " ").append(x.pain(p, what));
            }
        }
        return all.append(", said ").append(x.said(NONE)).append(", fault ").append(x.fault()).toString();
    }

    /** A seed by which the first draws are as told: of how many, which, of how many, which ... */
    static int seedOf(int... draws) {
        for (int seed = -50000; seed < 50000; seed++) {
            int x = seed;
            boolean good = true;
            for (int i = 0; i < draws.length && good; i += 2) {
                x = x * 1103515245 + 12345;
                good = (x >>> 8) % draws[i] == draws[i + 1];
            }
            if (good) {
                return seed;
            }
        }
        due("a seed of the test", 0, 1);
        return 0;
    }

    // ---- the run

    private static void run(Method method) throws IllegalAccessException {
        test = method.getName();
        int before = checks;
        try {
            method.invoke(null);
        } catch (InvocationTargetException e) {
            wrong++;
            System.out.println(test + ": threw " + e.getCause());
        }
        if (checks == before) {
            wrong++;
            System.out.println(test + ": tests nothing");
        }
    }

    /** Runs all tests of a class, found by their names; a promise from first to last without a test is a failure too. */
    static void runAll(Class<?> tests, int first, int last) throws IllegalAccessException {
        Method[] methods = tests.getDeclaredMethods();
        Arrays.sort(methods, Comparator.comparing(Method::getName));
        int[] found = new int[100];
        int all = 0;
        for (Method method : methods) {
            if (method.getName().matches("promise\\d\\d_\\w+")) {
                run(method);
                found[Integer.parseInt(method.getName().substring(7, 9))]++;
                all++;
            }
        }
        for (int promise = first; promise <= last; promise++) {
            if (found[promise] == 0) {
                wrong++;
                System.out.println("promise " + promise + " has no test");
            }
        }
        System.out.println(wrong == 0 ? all + " tests, " + checks + " answers are as due" : wrong + " are not as due");
        if (wrong != 0) {
            System.exit(1);
        }
    }
}
