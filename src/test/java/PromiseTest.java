import java.nio.ByteBuffer;
import java.nio.IntBuffer;
import java.nio.charset.StandardCharsets;
import java.util.Arrays;
import java.util.NoSuchElementException;

/** The promises 1 to 42 one by one: ordinary inputs, the edges that the document names, wrong inputs. */
public final class PromiseTest {
    private static final int NONE = PainPorters.NONE;
    private static final int THROWN = -77;
    private static final String SMALL = "sort ache;sort grief;sort limp fixed;talks ache grief;person ann 10;person bob 3;"
            + "porter pim 6 2;porter rex 9 3;bars rex grief;pain tooth ann ache 4 5;pain loss ann grief 3 9;"
            + "pain leg bob limp 2 9;pain burn bob ache 5 4;harm 2;";

    private static int wrong = 0;
    private static int checks = 0;
    private static int promise = 0;

    private static void due(String what, long got, long want) {
        checks++;
        if (got != want) {
            wrong++;
            System.out.println("promise " + promise + ": " + what + " answered " + got + ", due is " + want);
        }
    }

    private static void due(String what, boolean got, boolean want) {
        due(what, got ? 1 : 0, want ? 1 : 0);
    }

    // ---- helpers

    private static void type(PainPorters x, String text) {
        byte[] bytes = Arrays.copyOf(text.getBytes(StandardCharsets.ISO_8859_1), 960);
        x.end(0);
        for (int i = 0; i < text.length(); i += 20) {
            IntBuffer n = ByteBuffer.wrap(bytes, i, 20).asIntBuffer();
            x.feed(n.get(), n.get(), n.get(), n.get(), n.get());
        }
        x.end(text.length());
    }

    private static PainPorters of(String town) {
        PainPorters x = new PainPorters();
        type(x, town);
        int lines = x.town();
        if (lines < 0) {
            due("a town of a test: " + town, lines, 0);
        }
        return x;
    }

    /** The place of a FAULT and its kind, the kind behind a point: 12.3 is 123; NONE if there is none. */
    private static int faultOf(PainPorters x, int answer, int least) {
        return x.fault() == 0 ? NONE : (least - answer) * 10 + x.fault();
    }

    private static void townFault(String text, int place, int kind) {
        PainPorters x = new PainPorters();
        type(x, text);
        due("town of '" + text + "'", faultOf(x, x.town(), -1), place * 10 + kind);
    }

    private static void townLines(String text, int lines) {
        PainPorters x = new PainPorters();
        type(x, text);
        due("town of '" + text + "'", x.town(), lines);
        due("fault of '" + text + "'", x.fault(), 0);
    }

    private static void logFault(PainPorters x, String text, int place, int kind) {
        type(x, text);
        due("log of '" + text + "'", faultOf(x, x.log(0), -2), place * 10 + kind);
    }

    private static int lived(PainPorters x, String text, int lives) {
        type(x, text);
        return x.log(lives);
    }

    private static void logged(PainPorters x, int why, int good, int hour, int painless) {
        due("logged(0)", x.logged(0), why);
        due("logged(1)", x.logged(1), good);
        due("logged(2)", x.logged(2), hour);
        due("logged(3)", x.logged(3), painless);
    }

    private static void sentenceFault(String text, int place, int kind) {
        PainPorters x = of(SMALL);
        type(x, text);
        due("sentence of '" + text + "'", faultOf(x, x.sentence(), -1), place * 10 + kind);
    }

    private static void said(PainPorters x, String text, int ones, int... pains) {
        type(x, text);
        due("sentence of '" + text + "'", x.sentence(), ones);
        due("said(-1) of '" + text + "'", x.said(-1), pains.length);
        for (int k = 0; k < pains.length; k++) {
            due("said(" + k + ") of '" + text + "'", x.said(k), pains[k]);
        }
        due("said past the last of '" + text + "'", x.said(pains.length), NONE);
    }

    private static int pain(PainPorters x, int p, int what) {
        try {
            return x.pain(p, what);
        } catch (NoSuchElementException e) {
            return THROWN;
        }
    }

    private static int porter(PainPorters x, int r, int what) {
        try {
            return x.porter(r, what);
        } catch (NoSuchElementException e) {
            return THROWN;
        }
    }

    private static int unharmed(PainPorters x, int n, int what) {
        try {
            return x.unharmed(n, what);
        } catch (NoSuchElementException e) {
            return THROWN;
        }
    }

    private static int limps(PainPorters x, int... bytes) {
        StringBuilder text = new StringBuilder();
        for (int b : bytes) {
            text.append((char) b);
        }
        type(x, text.toString());
        return x.limps();
    }

    private static String times(String text, int n) {
        StringBuilder all = new StringBuilder();
        for (int i = 0; i < n; i++) {
            all.append(text);
        }
        return all.toString();
    }

    // ---- promises

    private static void newObject() {
        promise = 1;
        PainPorters x = new PainPorters();
        for (int what = 0; what < 6; what++) {
            due("count(" + what + ")", x.count(what), what == 4 ? 1 : 0);
        }
        for (int what = 0; what < 7; what++) {
            due("now(" + what + ")", x.now(what), 0);
        }
        due("fault()", x.fault(), 0);
        due("undo()", x.undo(), NONE);
        due("town() of the empty tape", x.town(), 0);
    }

    private static void feedAndEnd() {
        promise = 2;
        PainPorters x = new PainPorters();
        due("feed", x.feed(0x736f7274, 0x20616368, 0x653b0000, 0, 0), 20);
        x.end(10);
        due("town of fed bytes, highest first", x.town(), 1);
        due("sorts", x.count(0), 1);
        for (int i = 1; i <= 47; i++) {
            due("feed " + i, x.feed(-1, i, i, i, i), 20 * i);
        }
        due("feed past 940", x.feed(1, 2, 3, 4, 5), NONE);
        due("none came", x.count(5), 940);
        x.end(921);
        due("feed to 941", x.feed(1, 2, 3, 4, 5), NONE);
        due("none came again", x.count(5), 921);
        x.end(920);
        due("feed to 940", x.feed(1, 2, 3, 4, 5), 940);
        promise = 3;
        due("end(941)", x.end(941), false);
        due("end(-1)", x.end(-1), false);
        due("stays", x.count(5), 940);
        due("end(940)", x.end(940), true);
        due("end(7)", x.end(7), true);
        due("has 7", x.count(5), 7);
        due("end(8)", x.end(8), false);
        due("end(0)", x.end(0), true);
        due("feed behind it", x.feed(0, 0, 0, 0, 0), 20);
        PainPorters y = of("person m 9;");
        y.feed(0x07ffffff, 0, 0, 0, 0);
        y.end(1);
        y.feed(0, 0, 0, 0, 0);
        y.end(1);
        due("the first byte alone is kept", y.limps(), 0);
    }

    private static void towns() {
        promise = 4;
        townLines("", 0);
        townLines("  \n ", 0);
        townLines(SMALL, 14);
        townLines("sort\na\n fixed ;person m 007;harm 12;", 3);
        townLines("sort a;sort b;person m 0;pain p m a 9 200;talks b a;", 5);
        townLines("porter r 40 20;porter q 1 0;person n 999;", 3);
        PainPorters x = of(SMALL);
        due("the tape is empty then", x.count(5), 0);
        x.fetch(0, 0);
        x.hours(3);
        type(x, "is ache");
        x.sentence();
        type(x, "sort a;person;");
        due("a fault", x.town(), -14);
        due("the tape is empty behind a fault", x.count(5), 0);
        due("the TOWN stays", x.count(3), 4);
        due("the HOUR stays", x.now(0), 3);
        due("the SENTENCE stays", x.said(NONE), 2);
        due("can be undone still", x.undo(), 1);
        type(x, "person z 5;");
        due("a new TOWN", x.town(), 1);
        due("its PERSONS", x.count(1), 1);
        due("no SORTS", x.count(0), 0);
        due("no PORTERS", x.count(2), 0);
        due("no PAINS", x.count(3), 0);
        due("'harm' without", x.count(4), 1);
        due("HOUR 0", x.now(0), 0);
        due("its coin", x.now(4), 5);
        due("no SENTENCE", x.said(NONE), NONE);
        due("nothing to undo", x.undo(), NONE);
        for (int i = 0; i < 4; i++) {
            type(x, "sort z;sort y;" + (i % 2 == 0 ? "talks y z;" : "") + "person m 9;porter r 9 0;"
                    + "pain a m z 1 9;pain b m y 1 9;");
            due("a TOWN knows nothing of the ones ahead of it", x.town(), i % 2 == 0 ? 7 : 6);
            x.fetch(0, 0);
            due("nor does what talks", x.can(0, 1), i % 2 == 0 ? 3 : 0);
        }
        String full = "sort a;sort b;sort c;sort d;sort e;sort f;person g 1;person h 1;person i 1;person j 1;person k 1;"
                + "porter l 1 1;porter m 1 1;porter n 1 1;porter o 1 1;porter p 1 1;talks a b;talks a c;talks a d;talks a e;"
                + "talks a f;talks b c;talks b d;talks b e;bars l a;bars l b;bars l c;bars l d;bars l e;bars l f;bars m a;"
                + "bars m b;pain q g a 1 1;pain r g a 1 1;pain s g a 1 1;pain t g a 1 1;pain u g a 1 1;pain v g a 1 1;"
                + "pain w g a 1 1;pain x g a 1 1;harm 0;";
        townLines(full, 41);
        townFault(full + "sort y;", full.length(), 4);
        townFault(full + "talks b f;", full.length(), 4);
        townFault(full + "person y 1;", full.length(), 4);
        townFault(full + "porter y 1 1;", full.length(), 4);
        townFault(full + "bars m c;", full.length(), 4);
        townFault(full + "pain y g a 1 1;", full.length(), 4);
        townFault(full + "harm 0;", full.length(), 3);
        townFault(full + " sort", full.length() + 1, 4);
    }

    private static void townFaults() {
        promise = 5;
        townFault("sort", 4, 1);
        townFault("sort a", 6, 1);
        townFault("sort a  ", 8, 1);
        townFault("sort a fixed", 12, 1);
        townFault("sort a fixed fixed;", 13, 1);
        townFault(";", 0, 1);
        townFault("sort a;;", 7, 1);
        townFault("Sort a;", 0, 1);
        townFault("sort A;", 5, 1);
        townFault("sort a.", 6, 1);
        townFault("sort abcdefgh;", 5, 1);
        townFault("sort abc1;", 5, 1);
        townFault("sort 12;", 5, 1);
        townFault("sort sort;", 5, 1);
        townFault("home a;", 0, 1);
        townFault("a;", 0, 1);
        townFault("sort\ta;", 4, 1);
        townFault("sort a" + (char) 200 + ";", 6, 1);
        for (String word : new String[] {"fixed", "talks", "person", "porter", "bars", "pain", "harm", "fetches", "drops",
            "hands", "home", "hour", "or", "and", "not", "carried", "lost", "over", "of", "with", "is", "weight", "left",
            "number"}) {
            townFault("person " + word + " 1;", 7, 1);
        }
        townLines("person tape 1;person unlike 2;person log 3;person hours 4;person coin 5;", 5);
        townFault("person m 1000;", 9, 1);
        townFault("person m 1a;", 9, 1);
        townFault("person m n;", 9, 1);
        townFault("person m;", 8, 1);
        townFault("person m 1 1;", 11, 1);
        townFault("porter r 0 1;", 9, 2);
        townFault("porter r 41 99;", 9, 2);
        townFault("porter r 40 21;", 12, 2);
        townFault("harm 13;", 5, 2);
        townFault("harm 1;sort a;harm;", 14, 3);
        String base = "sort s;person m 1;porter r 1 1;";
        int b = base.length();
        townFault(base + "pain p m s 0 1;", b + 11, 2);
        townFault(base + "pain p m s 10 1;", b + 11, 2);
        townFault(base + "pain p m s 9 0;", b + 13, 2);
        townFault(base + "pain p m s 9 201;", b + 13, 2);
        townFault(base + "pain m m s 1 1;", b + 5, 3);
        townFault(base + "pain p p s 1 1;", b + 7, 3);
        townFault(base + "pain p r s 1 1;", b + 7, 3);
        townFault(base + "pain p q s 1 1;", b + 7, 3);
        townFault(base + "pain p pain s 1 1;", b + 7, 1);
        townFault(base + "pain p m r 1 1;", b + 9, 3);
        townFault(base + "sort r;", b + 5, 3);
        townFault(base + "porter s 1 1;", b + 7, 3);
        townFault(base + "talks s r;", b + 8, 3);
        townFault(base + "talks s s;", b + 8, 3);
        townFault(base + "talks r s;", b + 6, 3);
        townFault(base + "talks s 1;", b + 8, 1);
        townFault(base + "talks s sort;", b + 8, 1);
        townFault(base + "bars s r;", b + 5, 3);
        townFault(base + "bars r s;bars r s;", b + 16, 3);
        townFault(base + "sort t;talks s t;talks t s;", b + 25, 3);
        townFault(base + "sort t;talks s t;talks s t;", b + 25, 3);

        // 900 bytes at most
        townLines(times(" ", 893) + "sort a;", 1);
        townLines("sort a;" + times("\n", 893), 1);
        townFault("sort a;" + times(" ", 894), 900, 1);
        townFault(times(" ", 894) + "sort a;", 900, 1);
        townFault(times(" ", 895) + "sort a;", 900, 1);
        townFault(times(" ", 897) + "sort a;", 900, 1);
        townFault(times(" ", 897) + "sorta a;", 897, 1);
        townFault(times(" ", 893) + "sort abcdefgh;", 898, 1);
        townFault(times(" ", 893) + "sort abcdefg;", 900, 1);
        townFault(times(" ", 900) + "!", 900, 1);
        townFault(times(" ", 899) + "!!", 899, 1);
        townFault(times(" ", 899) + ";", 899, 1);
        townFault(times(" ", 890) + "harm 13 ;;;;", 895, 2);
        townFault(times(" ", 940), 900, 1);

        PainPorters x = new PainPorters();
        type(x, "x");
        x.town();
        due("fault()", x.fault(), 1);
        due("another lives", x.log(3), -1000);
        due("fault() stays", x.fault(), 1);
        x.limps();
        due("fault() behind limps()", x.fault(), 1);
        x.log(0);
        due("fault() behind a good LOG", x.fault(), 0);
        type(x, "lost");
        x.sentence();
        due("fault() behind a good SENTENCE", x.fault(), 0);
        type(x, "of him");
        x.sentence();
        due("fault() of a SENTENCE", x.fault(), 3);
        type(x, "hour 61;");
        x.log(1);
        due("fault() of a LOG", x.fault(), 2);
    }

    private static void looks() {
        promise = 6;
        PainPorters x = of(SMALL);
        int[] burn = {1, 0, 5, 4, 1, 0, 0};
        for (int what = 0; what < 7; what++) {
            due("pain(3, " + what + ")", pain(x, 3, what), burn[what]);
        }
        due("no such what", pain(x, 0, 7), THROWN);
        due("no such what below", pain(x, 0, -1), THROWN);
        due("no such pain", pain(x, 4, 0), THROWN);
        due("no such pain below", pain(x, -1, 0), THROWN);
        x.fetch(1, 3);
        due("with a PORTER", pain(x, 3, 4), 11);
        x.hours(1);
        due("paid for", pain(x, 3, 6), 1);
        due("HOURS left", pain(x, 3, 3), 3);
        x.drop(1, 3);
        due("in the street", pain(x, 3, 4), 20);
        due("dropped", pain(x, 3, 5), 1);
        x.hours(3);
        due("over", pain(x, 3, 4), 30);
        due("no HOURS left", pain(x, 3, 3), 0);
        promise = 7;
        due("no such PERSON", x.person(2, 0), NONE);
        due("no such PERSON below", x.person(-1, 0), NONE);
        due("no such what", x.person(0, 5), NONE);
        due("no such what below", x.person(0, -1), NONE);
        due("coin", x.person(1, 0), 0);
        due("his PAINS", x.person(1, 1), 4);
        due("PAINS with him", x.person(1, 2), 4);
        due("their WEIGHT", x.person(1, 3), 2);
        due("what he paid", x.person(1, 4), 3);
        due("hers", x.person(0, 1), 3);
        x.fetch(0, 1);
        due("hers are hers with a PORTER too", x.person(0, 1), 3);
        due("with her", x.person(0, 2), 1);
        promise = 8;
        due("STRENGTH", porter(x, 0, 0), 6);
        due("FEE", porter(x, 0, 1), 2);
        due("PAINS", porter(x, 0, 2), 2);
        due("HEAVES", porter(x, 0, 3), 3);
        due("earned", porter(x, 1, 4), 3);
        due("LEARNT", porter(x, 1, 5), 0);
        due("barred", porter(x, 1, 6), 2);
        due("no such PORTER", porter(x, 2, 0), THROWN);
        due("no such PORTER below", porter(x, -1, 0), THROWN);
        due("no such what", porter(x, 0, 7), THROWN);
        due("no such what below", porter(x, 0, -1), THROWN);
        promise = 9;
        due("fixed", x.sort(2, 0), 1);
        due("not fixed", x.sort(1, 0), 0);
        due("talks", x.sort(1, 1), 1);
        due("talks to none", x.sort(2, 1), 0);
        due("no such SORT", x.sort(3, 0), NONE);
        due("no such SORT below", x.sort(-1, 0), NONE);
        due("no such what", x.sort(0, 2), NONE);
        due("no such what below", x.sort(0, -1), NONE);
        promise = 10;
        x.hours(1);
        x.drop(0, 1);
        due("the HOUR", x.now(0), 5);
        due("PERSONS who feel nothing", x.now(1), 1);
        due("in the street", x.now(2), 2);
        due("over", x.now(3), 9);
        due("all coin", x.now(4), 8);
        due("all earned", x.now(5), 5);
        due("with PORTERS", x.now(6), 0);
        due("another what", x.now(7), NONE);
        due("another what below", x.now(-1), NONE);
    }

    private static void fetches() {
        promise = 11;
        PainPorters x = of(SMALL);
        due("no such PORTER", x.fetch(2, 0), NONE);
        due("no such PAIN", x.fetch(0, 4), NONE);
        due("below", x.fetch(-1, 0), NONE);
        due("below too", x.fetch(0, -1), NONE);
        due("fixed", x.fetch(0, 2), 2);
        due("barred", x.fetch(1, 1), 2);
        due("done", x.fetch(0, 0), 0);
        due("with no PERSON", x.fetch(0, 0), 1);
        due("with no PERSON, for another", x.fetch(1, 0), 1);
        due("talks", x.fetch(0, 1), 3);
        due("too heavy", x.fetch(0, 3), 4);
        due("the coin is just the FEE", x.fetch(1, 3), 0);
        PainPorters y = of("sort a;sort b;talks a b;person m 1;person n 9;porter r 9 2;porter q 5 1;"
                + "pain c m a 5 9;pain d n b 5 9;pain e n a 4 9;pain f m a 1 9;");
        due("too little coin", y.fetch(0, 0), 5);
        due("another's coin", y.fetch(0, 2), 0);
        due("talks ahead of too heavy", y.fetch(0, 1), 3);
        due("as much as his STRENGTH, and too little coin", y.fetch(0, 0), 5);
        due("as much as his STRENGTH", y.fetch(1, 0), 0);
        due("more than his STRENGTH", y.fetch(1, 3), 4);
        y.drop(1, 0);
        due("in the street", y.fetch(1, 0), 1);
        y.hours(1);
        due("fallen on him", pain(y, 0, 4), 0);
        due("whose coin is his it was told", y.fetch(1, 0), 0);
        PainPorters z = of("sort a;person m 0;person n 9;porter r 9 1;pain c n a 5 9;");
        z.fetch(0, 0);
        z.drop(0, 0);
        z.hours(1);
        due("with another", pain(z, 0, 4), 0);
        due("from another, for the coin of whose it is", z.fetch(0, 0), 0);
        z.hours(1);
        due("who paid", z.person(1, 4), 1);
    }

    private static void handsDropsHome() {
        promise = 12;
        PainPorters x = of("sort a;sort b;sort c;talks a b;person m 9;porter r 9 1;porter q 5 20;porter s 9 0;bars s a;"
                + "pain d m a 5 9;pain e m b 1 9;pain f m c 1 9;pain g m c 4 9;");
        due("no such ones", x.hand(3, 0, 1), NONE);
        due("no such ones", x.hand(0, 4, 1), NONE);
        due("no such ones", x.hand(0, 0, 3), NONE);
        due("no such ones", x.hand(0, 0, -1), NONE);
        due("alike", x.hand(0, 0, 0), NONE);
        due("not with this one", x.hand(0, 0, 1), 1);
        x.fetch(0, 0);
        due("alike with it", x.hand(0, 0, 0), NONE);
        due("barred to the other one", x.hand(0, 0, 2), 2);
        due("not with this one but another", x.hand(1, 0, 2), 1);
        due("coin is of no matter", x.hand(0, 0, 1), 0);
        due("with the other one", pain(x, 0, 4), 11);
        x.fetch(2, 1);
        due("talks", x.hand(2, 1, 1), 3);
        x.fetch(0, 2);
        due("too heavy", x.hand(0, 2, 1), 4);
        due("not dropped by that", pain(x, 0, 5), 0);
        promise = 13;
        due("no such ones", x.drop(3, 0), NONE);
        due("no such ones", x.drop(0, 4), NONE);
        due("no such ones", x.drop(-1, 0), NONE);
        due("with another", x.drop(0, 0), 1);
        due("with a PERSON", x.drop(0, 3), 1);
        due("done", x.drop(1, 0), 0);
        due("in the street", x.now(2), 1);
        due("again", x.drop(1, 0), 1);
        due("how often", pain(x, 0, 5), 1);
        promise = 14;
        due("no such one", x.home(4), NONE);
        due("no such one", x.home(-1), NONE);
        due("with whose it is", x.home(3), 1);
        due("from the street", x.home(0), 0);
        due("with him", pain(x, 0, 4), 0);
        due("from a PORTER", x.home(1), 0);
        due("with him", pain(x, 1, 4), 0);
        x.hours(9);
        due("over", x.home(0), 1);
        PainPorters y = of("sort a;person m 9;person n 9;porter r 9 1;pain c n a 5 9;");
        y.fetch(0, 0);
        y.drop(0, 0);
        y.hours(1);
        due("from another PERSON", y.home(0), 0);
        due("with whose it is", pain(y, 0, 4), 1);
    }

    private static void hoursGo() {
        promise = 15;
        PainPorters x = of(SMALL);
        due("0", x.hours(0), NONE);
        due("61", x.hours(61), NONE);
        due("below", x.hours(-1), NONE);
        for (int i = 0; i < 9; i++) {
            due("60", x.hours(60), 60);
        }
        due("to 599", x.hours(59), 59);
        due("the last one", x.hours(2), 1);
        due("600", x.now(0), 600);
        due("none left", x.hours(1), 0);
        due("600 still", x.now(0), 600);
        // who can't pay has it again, in the order of the PAINS; a FEE of 0 is paid too
        PainPorters y = of("sort a;sort b;person m 5;porter r 9 3;porter q 9 2;porter o 9 0;"
                + "pain c m a 1 9;pain d m b 1 9;pain e m a 1 9;");
        y.fetch(0, 0);
        y.fetch(1, 1);
        y.fetch(2, 2);
        y.hours(1);
        due("coin", y.person(0, 0), 0);
        due("paid", y.person(0, 4), 5);
        due("earned", porter(y, 0, 4), 3);
        due("earned too", porter(y, 1, 4), 2);
        y.hours(1);
        due("with whose they are", y.person(0, 2), 3);
        due("still carried", porter(y, 2, 2), 4);
        due("HOURS paid for", pain(y, 0, 6), 1);
        due("HOURS paid for 0", pain(y, 2, 6), 2);
        y = of("sort a;person m 4;porter r 9 3;porter q 9 2;pain c m a 1 9;pain d m a 1 9;");
        y.fetch(0, 0);
        y.fetch(1, 1);
        y.hours(1);
        due("the first is paid", pain(y, 0, 4), 10);
        due("the second goes home", pain(y, 1, 4), 0);
        // who falls on whom: by the HOUR that goes
        PainPorters z = of("sort a;person m 9;person n 9;person o 9;porter r 9 0;pain c m a 1 9;pain d m a 1 1;");
        z.fetch(0, 0);
        z.hours(4);
        z.drop(0, 0);
        z.hours(1);
        due("HOUR 4 by 3", pain(z, 0, 4), 1);
        z.fetch(0, 0);
        z.drop(0, 0);
        z.hours(1);
        due("HOUR 5 by 3", pain(z, 0, 4), 2);
        z.fetch(0, 0);
        z.drop(0, 0);
        z.hours(1);
        due("HOUR 6 by 3", pain(z, 0, 4), 0);
        PainPorters v = of("sort a;person m 9;person n 9;porter r 9 0;pain c m a 1 1;");
        v.fetch(0, 0);
        v.drop(0, 0);
        v.hours(1);
        due("over in the street", pain(v, 0, 4), 30);
        learning();
    }

    private static void learning() {
        // two PAINS of one SORT teach no faster; what can't be paid teaches nothing; 1 is the least
        PainPorters x = of("sort a;sort b;person m 999;porter r 9 1;pain c m a 3 200;pain d m a 1 200;pain e m b 5 200;");
        x.fetch(0, 0);
        x.fetch(0, 1);
        x.fetch(0, 2);
        x.hours(9);
        due("not yet", porter(x, 0, 5), 0);
        due("HEAVES all", porter(x, 0, 3), 9);
        x.drop(0, 2);
        x.hours(1);
        due("LEARNT one SORT", porter(x, 0, 5), 1);
        due("HEAVES less, 1 at least", porter(x, 0, 3), 3);
        x.fetch(0, 2);
        x.hours(1);
        due("LEARNT the other", porter(x, 0, 5), 3);
        due("HEAVES", porter(x, 0, 3), 7);
        PainPorters two = of("sort a;person m 9;porter r 9 0;pain c m a 2 200;");
        two.fetch(0, 0);
        two.hours(10);
        due("1 of 2", porter(two, 0, 3), 1);
        PainPorters y = of("sort a;person m 9;porter r 9 1;pain c m a 3 200;");
        y.fetch(0, 0);
        y.hours(10);
        due("nine paid", pain(y, 0, 6), 9);
        due("not LEARNT without pay", porter(y, 0, 5), 0);
        PainPorters z = of("sort a;person m 99;porter r 9 1;pain c m a 3 10;");
        z.fetch(0, 0);
        z.hours(10);
        due("LEARNT in its last HOUR", porter(z, 0, 5), 1);
    }

    private static void undos() {
        promise = 16;
        PainPorters x = of(SMALL);
        due("none", x.undo(), NONE);
        x.fetch(0, 2);
        x.hand(0, 0, 1);
        x.drop(0, 0);
        x.home(0);
        x.hours(0);
        x.drawn(0, 1);
        lived(x, "hour 0;", 1);
        lived(x, "hour 1;", 0);
        due("nothing was done", x.undo(), NONE);
        x.fetch(0, 0);
        x.hand(0, 0, 1);
        x.drop(1, 0);
        x.home(0);
        x.hours(2);
        x.drawn(3, 5);
        lived(x, "hour 1;hour 1;pim drops loss;", 1);
        due("HOUR", x.now(0), 7);
        due("the LOG", x.undo(), 6);
        due("HOUR", x.now(0), 5);
        due("drawn", x.undo(), 5);
        due("HOUR", x.now(0), 2);
        due("hours", x.undo(), 4);
        due("HOUR", x.now(0), 0);
        due("home", x.undo(), 3);
        due("in the street", pain(x, 0, 4), 20);
        due("drop", x.undo(), 2);
        due("with him", pain(x, 0, 4), 11);
        due("drops", pain(x, 0, 5), 0);
        due("hand", x.undo(), 1);
        due("with him", pain(x, 0, 4), 10);
        due("not done", x.fetch(0, 1), 3);
        x.hours(1);
        due("hours", x.undo(), 1);
        due("fetch", x.undo(), 0);
        due("none", x.undo(), NONE);
        due("as at first", x.now(4), 13);
        for (int i = 0; i < 10; i++) {
            x.hours(1);
        }
        for (int i = 7; i >= 0; i--) {
            due("8 at most", x.undo(), i);
        }
        due("no ninth", x.undo(), NONE);
        due("HOUR", x.now(0), 2);
    }

    private static void cans() {
        promise = 17;
        PainPorters x = of(SMALL);
        due("he can", x.can(0, 0), 0);
        due("fixed", x.can(0, 2), 2);
        due("barred", x.can(1, 1), 2);
        x.fetch(0, 0);
        due("what he has already", x.can(0, 0), 0);
        due("talks", x.can(0, 1), 3);
        due("too heavy", x.can(0, 3), 4);
        due("another's", x.can(1, 0), 0);
        due("no such ones", x.can(2, 0), NONE);
        due("no such ones", x.can(0, 4), NONE);
        due("no such ones", x.can(-1, 0), NONE);
        due("no such ones", x.can(0, -1), NONE);
        x.hours(4);
        due("over", x.can(0, 3), NONE);
        PainPorters y = of("sort a;person m 0;porter r 9 9;pain c m a 9 9;");
        due("coin is of no matter", y.can(0, 0), 0);
        promise = 32;
        due("coin is of no matter", y.cheapest(0), 0);
        due("no such one", y.cheapest(1), NONE);
        due("no such one", y.cheapest(-1), NONE);
        y.hours(9);
        due("over", y.cheapest(0), NONE);
        x = of("sort a;sort f fixed;person m 99;porter r 9 5;porter q 9 4;porter s 9 4;pain c m a 9 99;pain d m f 1 9;"
                + "pain e m a 1 99;");
        due("the least FEE, the first", x.cheapest(0), 1);
        x.fetch(1, 0);
        due("one who has it is left out", x.cheapest(0), 2);
        x.fetch(2, 2);
        due("the others are full", x.cheapest(0), 0);
        due("none for what is fixed", x.cheapest(1), NONE);
        promise = 33;
        due("fixed is hopeless", x.hopeless(), 2);
        x.hours(9);
        due("over is not", x.hopeless(), 0);
        y = of("sort a;person m 99;porter r 9 5;pain c m a 9 99;pain d m a 5 99;");
        due("none by itself", y.hopeless(), 0);
        y.fetch(0, 0);
        due("beside what he has", y.hopeless(), 2);
        y = of("sort a;person m 99;pain c m a 9 99;pain d m a 5 1;");
        due("no PORTERS", y.hopeless(), 3);
        y.hours(1);
        due("no PORTERS, one over", y.hopeless(), 1);
    }

    private static void frees() {
        promise = 18;
        PainPorters x = of("sort a;sort b;sort f fixed;talks a b;person m 1;person n 0;person o 0;person q 0;"
                + "porter r 10 3;porter s 6 1;porter t 10 1;"
                + "pain c m a 5 10;pain d m b 5 2;pain e n a 5 7;pain g q f 1 1;pain h n b 1 1;");
        due("no PERSONS", x.free(0, 1), 0);
        due("one without PAINS", x.free(4, 200), 0);
        due("fixed", x.free(8, 1), NONE);
        due("no such PERSON", x.free(16, 1), NONE);
        due("below", x.free(-1, 1), NONE);
        due("0 HOURS", x.free(1, 0), NONE);
        due("201 HOURS", x.free(1, 201), NONE);
        due("coin of no matter, talks, HOURS that it lasts", x.free(1, 5), 7);
        promise = 19;
        due("the first of like ones", x.by(0), 1);
        due("the next", x.by(1), 2);
        due("none by it", x.by(2), NONE);
        due("no such one", x.by(5), NONE);
        due("no such one", x.by(-1), NONE);
        x.free(8, 1);
        due("NONE leaves it", x.by(0), 1);
        promise = 18;
        due("all PAINS of two", x.free(3, 200), 20);
        due("c", x.by(0), 2);
        due("d", x.by(1), 1);
        due("e", x.by(2), 2);
        due("h", x.by(4), 1);
        due("c is fetched", x.fetch(2, 0), 0);
        due("besides what he carries now", x.free(2, 200), 8);
        due("e", x.by(2), 2);
        due("h", x.by(4), 1);
        PainPorters y = of("sort a;person m 9;porter r 5 1;porter s 9 2;pain c m a 3 9;pain d m a 3 9;pain e m a 4 9;");
        due("the dearer bears two", y.free(1, 9), 36 + 9);
        due("c", y.by(0), 0);
        due("d", y.by(1), 1);
        due("e", y.by(2), 1);
        y.fetch(0, 2);
        due("those alone that are with them now", y.free(1, 9), 36);
        due("what is carried is not told", y.by(2), NONE);
        y.fetch(1, 0);
        y.fetch(1, 1);
        due("with nobody", y.free(1, 9), 0);
        promise = 19;
        due("none by it", y.by(0), NONE);
        due("ahead of any", of(SMALL).by(0), NONE);
    }

    private static void fewestPorters() {
        promise = 20;
        PainPorters x = of("sort a;sort b;sort f fixed;talks a b;person m 99;"
                + "porter r 5 0;porter s 6 1;porter t 12 1;bars t b;"
                + "pain c m a 5 50;pain d m a 6 50;pain e m a 4 50;pain g m f 1 50;pain h m b 1 1;");
        due("none", x.fewest(0), 0);
        due("one", x.fewest(1), 1);
        promise = 21;
        due("the first", x.load(0), 0);
        promise = 20;
        due("two in one", x.fewest(3), 1);
        due("c", x.load(0), 2);
        due("d", x.load(1), 2);
        due("three in two", x.fewest(7), 2);
        promise = 21;
        due("c", x.load(0), 0);
        due("d", x.load(1), 2);
        due("e", x.load(2), 2);
        due("none by it", x.load(4), NONE);
        due("no such one", x.load(5), NONE);
        due("no such one", x.load(-1), NONE);
        promise = 20;
        due("fixed", x.fewest(8), NONE);
        due("NONE leaves it", x.load(0), 0);
        due("barred and talks", x.fewest(18), 2);
        due("d", x.load(1), 1);
        due("h", x.load(4), 0);
        due("no such ones", x.fewest(32), NONE);
        due("below", x.fewest(-1), NONE);
        x.fetch(0, 0);
        due("what is carried is of no matter", x.fewest(1), 1);
        due("c", x.load(0), 0);
        x.hours(10);
        due("one is over", x.fewest(16), NONE);
        due("LEARNT counts", porter(x, 0, 5), 1);
        due("d by the first", x.fewest(2), 1);
        due("d", x.load(1), 0);
        due("ahead of any", of(SMALL).load(0), NONE);
        PainPorters y = of("sort a;person m 9;porter r 9 1;porter s 9 1;pain c m a 9 9;pain d m a 9 9;pain e m a 9 9;");
        due("it can't be", y.fewest(7), NONE);
    }

    private static void limping() {
        promise = 22;
        PainPorters x = of("sort a;person m 9;person n 9;porter r 40 0;"
                + "pain c m a 2 50;pain d m a 2 50;pain e n a 3 50;pain f n a 5 50;pain g n a 9 50;");
        due("ahead of any", x.surely(0), NONE);
        due("ahead of any", x.ask(), NONE);
        due("too few bytes", limps(x, 4), NONE);
        due("the tape is empty then", x.count(5), 0);
        due("too many bytes", limps(x, 4, 17, 0), NONE);
        due("no bytes", x.limps(), NONE);
        due("nothing in the street", limps(x, 4, 17), 1);
        due("not so", limps(x, 4, 18), 0);
        due("NONE lay there", x.ask(), NONE);
        for (int p = 0; p < 3; p++) {
            x.fetch(0, p);
            x.drop(0, p);
        }
        due("one of two like ones", limps(x, 2, 14), 2);
        promise = 23;
        due("not one alone", x.surely(0), NONE);
        due("not one alone", x.surely(1), NONE);
        due("nobody", x.surely(2), 5);
        due("not in the street", x.surely(3), NONE);
        due("no such one", x.surely(5), NONE);
        due("no such one", x.surely(-1), NONE);
        promise = 24;
        due("the first of like ones", x.ask(), 0);
        promise = 22;
        due("none at all", limps(x, 1, 14), 0);
        promise = 23;
        due("0 leaves it", x.surely(2), 5);
        promise = 22;
        due("by all", limps(x, 5, 16), 2);
        promise = 23;
        due("who has it", x.surely(2), 0);
        promise = 22;
        due("all with nobody", limps(x, 0, 14), 1);
        due("too light", limps(x, 0, 13), 0);
        due("a byte above 127", limps(x, 200, 14), 0);
        x.home(2);
        x.fetch(0, 2);
        x.hours(1);
        due("fell on the first", x.person(0, 3), 4);
        due("as it is", limps(x, 4, 14), 1);
        for (int p = 0; p < 5; p++) {
            x.fetch(0, p);
            x.drop(0, p);
        }
        due("five in the street", limps(x, 0, 0), NONE);
        x.home(4);
        due("four", limps(x, 4, 12), 1);
        promise = 24;
        PainPorters y = of("sort a;person m 9;person n 9;person o 9;porter r 40 0;"
                + "pain c m a 1 50;pain d m a 2 50;pain e n a 1 50;pain f n a 3 50;");
        for (int p = 0; p < 4; p++) {
            y.fetch(0, p);
            y.drop(0, p);
        }
        // 3 0 0: f; or c, d; or d, e (c or e with nobody) -- of c, d, e, f two things each
        due("ways", limps(y, 3, 0, 0), 3);
        due("the first of like ones", y.ask(), 0);
        // 1 1 0: c and e, one each
        due("ways", limps(y, 1, 1, 0), 2);
        due("d is with nobody", y.surely(1), 5);
        // 1 0 2: c or e with the first; d with the third
        due("ways", limps(y, 1, 0, 2), 2);
        due("d", y.surely(1), 2);
        // 3 3 0: f with one, d and c or e with the other: d has two, f two, c three
        due("ways", limps(y, 3, 3, 0), 4);
        due("tells most", y.ask(), 0);
        // 2 1 0: d 0, c or e 1; or c, e 0 and nobody has 1: no way
        due("ways", limps(y, 2, 1, 0), 2);
        PainPorters z = of("person m 9;");
        due("no PAINS", limps(z, 0), 1);
        z = of("sort a;");
        due("no PERSONS", z.limps(), NONE);
    }

    private static void shares() {
        promise = 25;
        PainPorters x = of("porter r 1 1;porter s 1 1;porter t 1 1;");
        int[][] parts = {{0, 0, 0, 0}, {1, 1, 0, 0}, {2, 1, 1, 0}, {3, 1, 1, 1}, {999, 333, 333, 333}, {998, 333, 333, 332}};
        for (int[] part : parts) {
            for (int r = 0; r < 3; r++) {
                due("share(" + part[0] + ", " + r + ")", x.share(part[0], r), part[r + 1]);
            }
        }
        due("no such PORTER", x.share(1, 3), NONE);
        due("no such PORTER", x.share(1, -1), NONE);
        due("no such cart", x.share(-1, 0), NONE);
        due("no such cart", x.share(1000, 0), NONE);
        PainPorters y = of("porter r 5 1;porter s 1 1;porter t 4 1;");
        // 7: 3.5, 0.7, 2.8: the greatest rests are 8, 7, 5 of 10
        due("r", y.share(7, 0), 3);
        due("s", y.share(7, 1), 1);
        due("t", y.share(7, 2), 3);
        due("no PORTERS", of("").share(1, 0), NONE);
    }

    private static void rests() {
        promise = 26;
        // one who has none asks less till he has it, and then the other one does so
        PainPorters x = of("sort a;person m 9;porter r 3 1;porter s 3 2;pain c m a 3 9;");
        due("ahead of any", x.fee(0), NONE);
        due("never at rest", x.rest(), 40);
        promise = 27;
        due("r behind 40 ROUNDS", x.fee(0), 1);
        due("s behind 40 ROUNDS", x.fee(1), 2);
        due("no such one", x.fee(2), NONE);
        due("no such one", x.fee(-1), NONE);
        due("the FEES told stay", porter(x, 0, 1), 1);
        promise = 26;
        // nobody needs them: 5 ROUNDS to 0, and one more by which it is seen
        x = of("sort f fixed;person m 9;porter r 3 5;porter s 3 0;pain c m f 3 9;");
        due("to 0", x.rest(), 6);
        due("r", x.fee(0), 0);
        due("s", x.fee(1), 0);
        // the only one asks more up to 20
        x = of("sort a;person m 9;porter r 3 18;pain c m a 3 9;");
        due("to 20", x.rest(), 3);
        due("r", x.fee(0), 20);
        x.fetch(0, 0);
        due("as if nothing were carried", x.rest(), 3);
        x.hours(9);
        due("over: nothing to carry", x.rest(), 19);
        due("to 0", x.fee(0), 0);
        // talks and bars count, nothing is LEARNT
        x = of("sort a;sort b;talks a b;person m 99;porter r 4 0;porter s 9 1;bars s a;pain c m a 4 99;pain d m b 4 99;");
        x.fetch(0, 0);
        x.hours(20);
        due("LEARNT", porter(x, 0, 5), 1);
        due("ROUNDS", x.rest(), 21);
        due("r is full, as if nothing were LEARNT", x.fee(0), 20);
        due("s is not full", x.fee(1), 1);
        due("no PORTERS", of("").rest(), 1);
    }

    private static void harms() {
        promise = 28;
        PainPorters x = of("harm 3;");
        int[][] due = {{1, 1}, {3, 4}, {9, 16}, {27, 64}, {81, 256}, {243, 1024}, {729, 4096}};
        for (int n = 0; n < 7; n++) {
            due("above " + n, unharmed(x, n, 0), due[n][0]);
            due("below " + n, unharmed(x, n, 1), due[n][1]);
        }
        due("7", unharmed(x, 7, 0), THROWN);
        due("-1", unharmed(x, -1, 0), THROWN);
        due("what 2", unharmed(x, 1, 2), THROWN);
        due("what -1", unharmed(x, 1, -1), THROWN);
        x = of("harm 0;");
        due("never", unharmed(x, 6, 0), 1);
        due("never", unharmed(x, 6, 1), 1);
        x = of("harm 12;");
        due("at once", unharmed(x, 6, 0), 0);
        due("at once", unharmed(x, 6, 1), 1);
        due("not in 0 HOURS", unharmed(x, 0, 0), 1);
        x = of("harm 1;");
        due("11 of 12", unharmed(x, 6, 0), 1771561);
        due("11 of 12", unharmed(x, 6, 1), 2985984);
    }

    private static void foresight() {
        promise = 29;
        PainPorters x = of(SMALL);
        due("by itself", x.ease(0), 9);
        due("no such one", x.ease(2), NONE);
        due("no such one", x.ease(-1), NONE);
        x.fetch(0, 0);
        x.fetch(1, 3);
        PainPorters y = of("sort a;person m 3;person n 0;porter r 9 1;pain c m a 3 9;");
        due("free now", y.ease(1), 0);
        y.fetch(0, 0);
        due("free as long as it is paid for", y.ease(0), 0);
        y.hours(3);
        due("free at the beginning of the HOUR", y.ease(0), 3);
        y.hours(1);
        due("when it is over", y.ease(0), 9);
        y.fetch(0, 0);
        due("nothing changed", y.now(0), 4);
        for (int i = 0; i < 9; i++) {
            y.hours(60);
        }
        y.hours(55);
        due("599", y.ease(0), 599);
        y.hours(1);
        due("not by 599", y.ease(0), NONE);
        promise = 30;
        due("now", x.later(1, 0), 2);
        due("paid", x.later(1, 1), 2);
        due("not paid", x.later(1, 2), 7);
        due("over", x.later(1, 4), 2);
        due("all over", x.later(1, 9), 0);
        due("600", x.later(1, 600), 0);
        due("601", x.later(1, 601), NONE);
        due("no such one", x.later(2, 1), NONE);
        due("no such one", x.later(-1, 1), NONE);
        x.hours(1);
        due("past", x.later(1, 0), NONE);
        due("now", x.later(1, 1), 2);
        due("600 at 600", y.later(0, 600), 0);
        due("599 at 600", y.later(0, 599), NONE);
        x.drop(1, 3);
        due("in the street", x.later(1, 1), 2);
        due("falls on bob by HOUR 1", x.later(1, 2), 7);
        promise = 31;
        PainPorters z = of("sort a;person m 10;porter r 9 2;porter s 9 1;pain c m a 3 3;pain d m a 3 9;pain e m a 3 9;");
        due("with a PERSON", z.lasts(0), NONE);
        due("no such one", z.lasts(3), NONE);
        due("no such one", z.lasts(-1), NONE);
        z.fetch(0, 0);
        z.fetch(1, 1);
        due("till it is over", z.lasts(0), 3);
        due("till coin is gone, 3 a HOUR, then 1", z.lasts(1), 4);
        z.hours(1);
        due("from now on", z.lasts(1), 3);
        z.drop(0, 0);
        due("in the street", z.lasts(0), NONE);
        due("alone", z.lasts(1), 7);
        z.hours(9);
        due("over", z.lasts(1), NONE);
    }

    private static int next(int x) {
        return x * 1103515245 + 12345;
    }

    private static void draws() {
        promise = 34;
        // One PORTER, one PAIN: the first draw of 4 tells the act of each HOUR, one more draw goes with 0 and 1, two with 2.
        PainPorters x = of("sort a;person m 0;person n 0;porter r 9 0;pain c m a 3 200;");
        int seed = 12345;
        int s = seed;
        boolean carried = false;
        int at = 0;
        int drops = 0;
        int paid = 0;
        for (int h = 0; h < 60; h++) {
            s = next(s);
            int act = (s >>> 8) % 4;
            for (int i = act; act < 3 && i < (act == 2 ? 4 : act + 1); i++) {
                s = next(s);
            }
            boolean dropped = act == 1 && carried;
            carried = act == 0 || carried && !dropped;
            drops += dropped ? 1 : 0;
            paid += carried ? 1 : 0;
            at = carried ? 10 : dropped ? h % 2 : at;
        }
        due("60 HOURS", x.drawn(60, seed), 60);
        due("HOUR", x.now(0), 60);
        due("where", pain(x, 0, 4), at);
        due("drops", pain(x, 0, 5), drops);
        due("paid for", pain(x, 0, 6), paid);
        due("undone", x.undo(), 0);
        due("HOUR", x.now(0), 0);
        due("0", x.drawn(0, 1), NONE);
        due("61", x.drawn(61, 1), NONE);
        due("no PORTERS", of("sort a;person m 0;pain c m a 3 200;").drawn(1, 1), NONE);
        due("no PAINS", of("sort a;person m 0;porter r 9 0;").drawn(1, 1), NONE);
        for (int i = 0; i < 9; i++) {
            x.hours(60);
        }
        x.hours(50);
        due("10 are left", x.drawn(60, -7), 10);
        due("none are left", x.drawn(60, -7), 0);
        due("that was nothing to undo", x.undo(), 7);
        due("HOUR", x.now(0), 590);
        promise = 35;
        PainPorters y = of("sort a;person m 50;person n 0;porter r 9 1;porter q 3 0;pain c m a 3 200;pain d n a 3 50;");
        for (int m = 0; m < 2; m++) {
            int free = 0;
            for (int i = 0; i < 30; i++) {
                y.image(0);
                y.drawn(10, Integer.MAX_VALUE - 10 + i);
                free += y.person(m, 2) == 0 ? 1 : 0;
                y.restore(0);
            }
            due("30 seeds", y.odds(m, 30, Integer.MAX_VALUE - 10), free);
            due("some, not all", free > 0 && free < 30, true);
        }
        due("all stays", y.now(0), 0);
        due("nothing to undo", y.undo(), NONE);
        due("0", y.odds(0, 0, 1), NONE);
        due("31", y.odds(0, 31, 1), NONE);
        due("no such one", y.odds(2, 1, 1), NONE);
        due("no such one", y.odds(-1, 1, 1), NONE);
        due("no PORTERS", of("sort a;person m 0;pain c m a 3 200;").odds(0, 1, 1), NONE);
        due("no PAINS", of("sort a;person m 0;porter r 9 0;").odds(0, 1, 1), NONE);
    }

    private static void logs() {
        promise = 37;
        PainPorters x = of(SMALL);
        due("ahead of any", x.logged(0), NONE);
        promise = 36;
        due("another lives", x.log(2), -1000);
        due("another lives", x.log(-1), -1000);
        type(x, "hour 1;");
        due("another lives", x.log(5), -1000);
        due("the tape stays", x.count(5), 7);
        due("judged", x.log(0), NONE);
        due("the tape is empty then", x.count(5), 0);
        logged(x, 0, 1, 1, 0);
        due("all stays", x.now(0), 0);
        String good = "pim fetches tooth;rex fetches burn;hour 1;rex hands burn pim;";
        due("lived", lived(x, good + "rex drops burn;burn home;hour 2;", 1), 3);
        logged(x, 14, 3, 1, 0);
        due("HOUR", x.now(0), 1);
        due("carried", x.now(6), 9);
        due("undone at once", x.undo(), 0);
        due("HOUR", x.now(0), 0);
        due("judged", lived(x, "pim fetches tooth;pim drops tooth;tooth home;hour 60;", 0), NONE);
        logged(x, 0, 4, 60, 3);
        due("all stays", x.now(3), 0);
        promise = 37;
        due("what 4", x.logged(4), NONE);
        due("what -1", x.logged(-1), NONE);
        String[] wrongs = {"leg home;31", "pim drops tooth;21", "pim hands tooth rex;11", "pim fetches leg;2",
            "pim hands tooth pim;19", "rex fetches loss;2", "pim fetches tooth;pim fetches tooth;1",
            "pim fetches tooth;pim fetches loss;3", "pim fetches tooth;pim fetches burn;4",
            "hour 1;rex fetches burn;hour 1;rex drops burn;burn home;pim fetches burn;5",
            "pim fetches loss;pim hands loss rex;12", "pim fetches loss;rex fetches tooth;rex hands tooth pim;13",
            "rex fetches burn;pim fetches tooth;rex hands burn pim;14", "hour 60;leg home;31",
            times("hour 60;", 10) + "hour 1;41", times("hour 60;", 9) + "hour 59;hour 2;41"};
        for (String w : wrongs) {
            int cut = w.lastIndexOf(';') + 1;
            String text = w.substring(0, cut);
            int lines = text.length() - text.replace(";", "").length();
            due(text, lived(x, text, 0), lines - 1);
            due("why: " + text, x.logged(0), Integer.parseInt(w.substring(cut)));
            due("LINES that are not: " + text, x.logged(1), lines - 1);
        }
        due("HOUR behind 599", x.logged(2), 599);
        due("to the end", lived(x, times("hour 60;", 10), 0), NONE);
        logged(x, 0, 10, 600, 3);
        due("a FAULT leaves it", lived(x, "hour 0;", 0), -2 - 5);
        logged(x, 0, 10, 600, 3);
        due("so does -1000", x.log(7), -1000);
        logged(x, 0, 10, 600, 3);
        due("an empty LOG", x.log(0), NONE);
        logged(x, 0, 0, 0, 0);
        due("handed on", lived(x, "pim fetches tooth;pim hands tooth rex;rex fetches burn;", 1), NONE);
        logged(x, 0, 3, 0, 0);
        due("with the other one", x.now(6), 9);
        due("with the other one", porter(x, 1, 2), 9);
        x.undo();
        due("drops are counted", lived(x, "pim fetches tooth;pim drops tooth;hour 1;", 1), NONE);
        due("drops", pain(x, 0, 5), 1);
        logFaults();
    }

    private static void logFaults() {
        promise = 36;
        PainPorters x = of(SMALL);
        logFault(x, "hour", 4, 1);
        logFault(x, "hour 1", 6, 1);
        logFault(x, "hour 0;", 5, 2);
        logFault(x, "hour 61;", 5, 2);
        logFault(x, "hour 1000;", 5, 1);
        logFault(x, "hour pim;", 5, 1);
        logFault(x, "pim;", 3, 1);
        logFault(x, "pim home;", 4, 1);
        logFault(x, "tooth fetches pim;", 6, 1);
        logFault(x, "tooth home pim;", 11, 1);
        logFault(x, "ann fetches tooth;", 0, 3);
        logFault(x, "ache home;", 0, 3);
        logFault(x, "zed home;", 0, 3);
        logFault(x, "home tooth;", 0, 1);
        logFault(x, "12;", 0, 1);
        logFault(x, "pim fetches ann;", 12, 3);
        logFault(x, "pim fetches rex;", 12, 3);
        logFault(x, "pim drops zed;", 10, 3);
        logFault(x, "pim drops hour;", 10, 1);
        logFault(x, "pim hands tooth;", 15, 1);
        logFault(x, "pim hands tooth ann;", 16, 3);
        logFault(x, "pim hands tooth rex", 19, 1);
        logFault(x, "pim hands rex tooth;", 10, 3);
        logFault(x, "hour 1;.", 7, 1);
        String forty = times("hour 1;", 40);
        due("40 LINES", lived(x, forty, 0), NONE);
        due("40 LINES", x.logged(1), 40);
        logFault(x, forty + "hour 1;", 280, 4);
        logFault(x, forty + "tooth home;", 280, 4);
        logFault(x, forty + "pim", 280, 4);
        logFault(x, forty + "zed", 280, 3);
        logFault(x, forty + "ann", 280, 3);
        logFault(x, forty + "home", 280, 1);
        logFault(x, forty + ";", 280, 1);
        due("400 bytes", lived(x, times(" ", 393) + "hour 1;", 0), NONE);
        logFault(x, "hour 1;" + times(" ", 394), 400, 1);
        logFault(x, times(" ", 394) + "hour 1;", 400, 1);
        logFault(x, times(" ", 396) + "zed home;", 396, 3);
        logFault(x, times(" ", 399) + "zed home;", 399, 3);
        logFault(x, times(" ", 399) + "pim fetches zed;", 400, 1);
        due("a FAULT lives nothing", lived(x, "hour 5;hour", 1), -2 - 11);
        due("HOUR", x.now(0), 0);
        due("nothing to undo", x.undo(), NONE);
    }

    private static void sentences() {
        promise = 39;
        PainPorters x = of(SMALL);
        due("no SENTENCE", x.said(NONE), NONE);
        due("no SENTENCE", x.said(0), NONE);
        promise = 38;
        said(x, "is ache", 1, 0, 3);
        due("the tape is empty then", x.count(5), 0);
        said(x, "not is ache", 2, 1, 2);
        said(x, "not not is ache", 3, 0, 3);
        said(x, "(is ache)", 2, 0, 3);
        said(x, "is ache or is grief and of bob", 3, 0, 3);
        said(x, "(is ache or is grief) and of bob", 4, 3);
        said(x, "of bob and is grief or is ache", 3, 0, 3);
        said(x, "not of bob and is ache", 3, 0);
        said(x, "not (of bob and is ache)", 4, 0, 1, 2);
        said(x, "not of bob or not is ache or of bob and is ache", 6, 0, 1, 2, 3);
        said(x, "weight<4", 1, 1, 2);
        said(x, "weight = 4", 1, 0);
        said(x, "weight>4", 1, 3);
        said(x, "left<5 or left>5", 2, 1, 2, 3);
        said(x, "left=005", 1, 0);
        said(x, "number>0 and number<3", 2, 1, 2);
        said(x, "number=999", 1);
        said(x, "with ann", 1, 0, 1);
        said(x, "lost or carried or over", 3);
        x.fetch(0, 0);
        x.fetch(1, 3);
        x.drop(1, 3);
        promise = 39;
        said(x, "lost", 1, 3);
        said(x, "carried", 1, 0);
        said(x, "with pim", 1, 0);
        said(x, "of ann and not with ann", 3, 0);
        x.hand(0, 0, 1);
        said(x, "with rex", 1, 0);
        said(x, "with pim", 1);
        x.undo();
        x.hours(4);
        said(x, "over", 1, 3);
        said(x, "left=0", 1, 3);
        due("below NONE", x.said(-2), NONE);
        type(x, "with");
        due("a FAULT", x.sentence(), -5);
        due("the tape is empty behind a fault", x.count(5), 0);
        due("it stays", x.said(NONE), 1);
        promise = 38;
        said(x, "not not not not not not not over", 8, 0, 1, 2);
        said(x, "((((((( over )))))))", 8, 3);
        said(x, "(((not(((over))))))or over", 9, 0, 1, 2, 3);
        said(x, times("over or ", 19) + "over", 20, 3);
        sentenceFaults();
        PainPorters y = of("");
        said(y, "over", 1);
    }

    private static void sentenceFaults() {
        promise = 38;
        sentenceFault("", 0, 1);
        sentenceFault("  ", 2, 1);
        sentenceFault("and", 0, 1);
        sentenceFault("over over", 5, 1);
        sentenceFault("over;", 4, 1);
        sentenceFault("over and", 8, 1);
        sentenceFault("over or or over", 8, 1);
        sentenceFault("not", 3, 1);
        sentenceFault("not and", 4, 1);
        sentenceFault("()", 1, 1);
        sentenceFault("(over", 5, 1);
        sentenceFault("over)", 4, 1);
        sentenceFault("(over))", 6, 1);
        sentenceFault("(over and)", 9, 1);
        sentenceFault("of", 2, 1);
        sentenceFault("of pim", 3, 3);
        sentenceFault("of zed", 3, 3);
        sentenceFault("of of", 3, 1);
        sentenceFault("of 1", 3, 1);
        sentenceFault("with tooth", 5, 3);
        sentenceFault("with ache", 5, 3);
        sentenceFault("with (ann)", 5, 1);
        sentenceFault("is ann", 3, 3);
        sentenceFault("weight 4", 7, 1);
        sentenceFault("weight <= 4", 8, 1);
        sentenceFault("weight < x", 9, 1);
        sentenceFault("left < 1000", 7, 1);
        sentenceFault("number", 6, 1);
        sentenceFault("tooth", 0, 1);
        sentenceFault("hour < 3", 0, 1);
        sentenceFault("not not not not not not not not over", 32, 4);
        sentenceFault("not not not not not not not not not", 32, 4);
        sentenceFault("not not not not not not not not and", 32, 1);
        sentenceFault("(((((((( over ))))))))", 9, 4);
        sentenceFault("(((((((((", 8, 4);
        sentenceFault("((((((((", 8, 1);
        sentenceFault("(not (not (not (not over))))", 20, 4);
        sentenceFault(times("over or ", 20) + "over", 160, 4);
        sentenceFault(times("over or ", 20) + "and", 160, 1);
        sentenceFault(times("lost and ", 20) + "(", 180, 4);
        sentenceFault(times("lost and ", 20), 180, 1);
        PainPorters x = of(SMALL);
        said(x, times(" ", 196) + "over", 1);
        sentenceFault(times(" ", 197) + "over", 200, 1);
        sentenceFault("over" + times(" ", 197), 200, 1);
        sentenceFault(times(" ", 199) + "ovex", 199, 1);
        sentenceFault(times(" ", 194) + "is   zed", 199, 3);
    }

    private static void images() {
        promise = 40;
        PainPorters x = of(SMALL);
        due("no such place", x.image(2), false);
        due("no such place", x.image(-1), false);
        promise = 41;
        due("no such place", x.restore(2), false);
        due("no such place", x.restore(-1), false);
        due("nothing is kept", x.restore(0), false);
        due("nothing is kept", x.restore(1), false);
        type(x, "is ache");
        x.sentence();
        x.fetch(0, 0);
        x.hours(2);
        promise = 40;
        due("kept", x.image(1), true);
        due("that changes nothing", x.undo(), 1);
        x.undo();
        due("kept", x.image(0), true);
        x.rest();
        x.free(1, 1);
        type(x, "sort z;person y 4;porter w 5 5;");
        x.town();
        type(x, "pim fetches");
        x.log(0);
        promise = 41;
        type(x, "abc");
        x.hours(1);
        due("as kept", x.restore(1), true);
        due("nothing can be undone", x.undo(), NONE);
        due("PAINS", x.count(3), 4);
        due("'harm'", x.count(4), 2);
        due("HOUR", x.now(0), 2);
        due("earned", x.now(5), 4);
        due("carried", x.now(6), 1);
        due("the SENTENCE", x.said(NONE), 2);
        due("the tape stays", x.count(5), 3);
        due("the FAULT stays", x.fault(), 3);
        due("FEES at rest stay", x.fee(1), 3);
        due("FREE stays", x.by(1), 0);
        due("names are known", lived(x, "pim drops tooth;", 1), NONE);
        x.hours(1);
        due("the image does not change with what is so", x.restore(1), true);
        due("HOUR", x.now(0), 2);
        due("carried", x.now(6), 1);
        due("the other place", x.restore(0), true);
        due("HOUR", x.now(0), 0);
        due("carried", x.now(6), 0);
        type(x, "sort z;");
        x.town();
        due("an image of a TOWN without a SENTENCE", x.image(0), true);
        due("the other one", x.restore(1), true);
        due("this one", x.restore(0), true);
        due("no SENTENCE", x.said(NONE), NONE);
        due("SORTS", x.count(0), 1);
        imageIsWhole();
    }

    /** All of a TOWN, of what is so and of the SENTENCE comes back, whatever came between. */
    private static void imageIsWhole() {
        PainPorters x = of(SMALL);
        type(x, "is ache and left > 3 or with rex");
        x.sentence();
        x.fetch(0, 0);
        x.hours(1);
        x.drop(0, 0);
        x.image(0);
        int[] before = look(x);
        String[] others = {"sort q fixed;sort w;person e 7;person r 8;person t 9;porter z 1 1;pain u e w 9 9;harm 5;",
            "sort w;sort q;sort a;sort s;talks w a;talks q s;person e 1;porter z 40 4;porter y 30 3;porter v 20 2;"
                + "bars z w;bars y q;bars v s;pain u e w 9 9;pain i e a 8 8;pain o e q 7 7;pain p e s 6 6;pain k e w 5 5;"};
        for (int i = 0; i < 5; i++) {
            type(x, others[i % 2]);
            x.town();
            type(x, i % 2 == 0 ? "weight < 9 and not lost" : "number = 2 or (of e and not carried)");
            x.sentence();
            x.image(1);
            x.drawn(9, i);
        }
        due("restored", x.restore(0), true);
        int[] after = look(x);
        for (int i = 0; i < before.length; i++) {
            due("look " + i, after[i], before[i]);
        }
        due("names", lived(x, "rex fetches burn;hour 1;tooth home;loss home;", 0), 3);
        due("why", x.logged(0), 31);
    }

    private static int[] look(PainPorters x) {
        int[] seen = new int[200];
        int n = 0;
        for (int i = 0; i < 7; i++) {
            seen[n++] = x.now(i);
            seen[n++] = x.count(i);
            seen[n++] = x.said(i - 1);
            for (int k = 0; k < 4; k++) {
                seen[n++] = pain(x, k, i);
                seen[n++] = x.person(k, i);
                seen[n++] = porter(x, k, i);
                seen[n++] = x.sort(k, i);
                seen[n++] = x.can(i % 2, k);
            }
        }
        return seen;
    }

    private static void counts() {
        promise = 42;
        PainPorters x = of(SMALL);
        x.feed(1, 2, 3, 4, 5);
        int[] due = {3, 2, 2, 4, 2, 20};
        for (int what = 0; what < 6; what++) {
            due("count(" + what + ")", x.count(what), due[what]);
        }
        due("another what", x.count(6), NONE);
        due("another what below", x.count(-1), NONE);
    }

    public static void main(String[] args) {
        newObject();
        feedAndEnd();
        towns();
        townFaults();
        looks();
        fetches();
        handsDropsHome();
        hoursGo();
        undos();
        cans();
        frees();
        fewestPorters();
        limping();
        shares();
        rests();
        harms();
        foresight();
        draws();
        logs();
        sentences();
        images();
        counts();
        System.out.println(wrong == 0 ? checks + " answers are as due" : wrong + " answers are not as due");
        if (wrong != 0) {
            System.exit(1);
        }
    }
}
