import java.nio.charset.StandardCharsets;
import java.util.ArrayDeque;
import java.util.ArrayList;
import java.util.Arrays;
import java.util.Deque;
import java.util.HashMap;
import java.util.LinkedHashMap;
import java.util.List;
import java.util.Map;
import java.util.NoSuchElementException;
import java.util.Random;
import java.util.Set;
import java.util.TreeSet;
import java.util.function.BiPredicate;

/**
 * Random runs of calls on PainPorters and on a second, slow program that was written from the document alone
 * (texts cut into TOKENS first, all ways tried one by one): each answer must be the same, and nothing but
 * NoSuchElementException may be thrown. The random numbers are the same each time.
 */
public final class ModelTest {
    static final int THROWN = Integer.MIN_VALUE;
    static final Set<String> RESERVED = new TreeSet<>(Arrays.asList("sort", "fixed", "talks", "person", "porter", "bars",
            "pain", "harm", "fetches", "drops", "hands", "home", "hour", "or", "and", "not", "carried", "lost", "over",
            "of", "with", "is", "weight", "left", "number"));

    static final class Fault extends RuntimeException {
        private static final long serialVersionUID = 1L;
        final int kind;
        final int place;

        Fault(int kind, int place) {
            this.kind = kind;
            this.place = place;
        }
    }

    /** One TOKEN; type: w, n, a sign, ! (none), $ (the end). */
    static final class Token {
        final char type;
        final String text;
        final int place;

        Token(char type, String text, int place) {
            this.type = type;
            this.text = text;
            this.place = place;
        }

        boolean is(String word) {
            return type == 'w' && text.equals(word);
        }

        boolean isName() {
            return type == 'w' && !RESERVED.contains(text);
        }

        Fault fault(int kind) {
            return new Fault(kind, place);
        }
    }

    static List<Token> tokens(String text, int most) {
        List<Token> all = new ArrayList<>();
        int i = 0;
        while (i < text.length() && i < most) {
            char c = text.charAt(i);
            if (c == ' ' || c == '\n') {
                i++;
                continue;
            }
            int j = i;
            while (j < text.length() && String.valueOf(text.charAt(j)).matches("[a-z0-9]")) {
                j++;
            }
            String run = text.substring(i, j);
            if (run.isEmpty()) {
                all.add(new Token(";<=>()".indexOf(c) >= 0 ? c : '!', "", i));
                i++;
            } else {
                all.add(new Token(run.matches("[a-z]{1,7}") ? 'w' : run.matches("[0-9]{1,3}") ? 'n' : '!', run, i));
                i = j;
            }
        }
        boolean more = text.length() > most;
        all.add(new Token(more ? '!' : '$', "", more ? most : text.length()));
        return all;
    }

    static final class Porter {
        int strength;
        int fee;
        final Set<Integer> bars = new TreeSet<>();
    }

    static final class Told {
        int owner;
        int sort;
        int weight;
        int hours;
    }

    static final class Town {
        final Map<String, String> names = new LinkedHashMap<>();
        final List<Boolean> sorts = new ArrayList<>();
        final Set<String> talks = new TreeSet<>();
        int talkLines;
        int barLines;
        final List<Integer> persons = new ArrayList<>();
        final List<Porter> porters = new ArrayList<>();
        final List<Told> pains = new ArrayList<>();
        int harm = 1;
        boolean harmTold;

        boolean talk(int a, int b) {
            return talks.contains(Math.min(a, b) + "-" + Math.max(a, b));
        }
    }

    static final class Pain {
        String at;
        int left;
        int drops;
        int paid;
    }

    static final class World {
        int hour;
        int[] coin;
        int[] spent;
        int[] earned;
        List<Pain> pains = new ArrayList<>();
        Map<String, Integer> practice = new HashMap<>();

        World copy() {
            World w = new World();
            w.hour = hour;
            w.coin = coin.clone();
            w.spent = spent.clone();
            w.earned = earned.clone();
            w.practice = new HashMap<>(practice);
            for (Pain p : pains) {
                Pain q = new Pain();
                q.at = p.at;
                q.left = p.left;
                q.drops = p.drops;
                q.paid = p.paid;
                w.pains.add(q);
            }
            return w;
        }
    }

    static final class Model {
        final List<Integer> tape = new ArrayList<>();
        Town town = new Town();
        World world = fresh(town);
        BiPredicate<World, Integer> sentence = null;
        int fault = 0;
        final Deque<World> past = new ArrayDeque<>();
        // A copy of the world, taken ahead of each call.
        World ahead;
        final Object[][] images = new Object[2][];
        Map<Integer, Integer> by = new HashMap<>();
        Map<Integer, Integer> load = new HashMap<>();
        Map<Integer, Set<Integer>> limps = new LinkedHashMap<>();
        int[] fees = {};
        int[] logged = null;
        // the reading of a text
        List<Token> tokens;
        int at;
        int ones;

        static World fresh(Town t) {
            World w = new World();
            w.coin = t.persons.stream().mapToInt(i -> i).toArray();
            w.spent = new int[w.coin.length];
            w.earned = new int[t.porters.size()];
            for (Told p : t.pains) {
                Pain q = new Pain();
                q.at = "m" + p.owner;
                q.left = p.hours;
                w.pains.add(q);
            }
            return w;
        }

        String takeTape() {
            StringBuilder text = new StringBuilder();
            for (int b : tape) {
                text.append((char) b);
            }
            tape.clear();
            return text.toString();
        }

        int feed(int... numbers) {
            if (tape.size() + 20 > 940) {
                return -1;
            }
            for (int n : numbers) {
                for (byte b : java.nio.ByteBuffer.allocate(4).putInt(n).array()) {
                    tape.add(b & 255);
                }
            }
            return tape.size();
        }

        int end(int n) {
            if (n < 0 || n > tape.size()) {
                return 0;
            }
            while (tape.size() > n) {
                tape.remove(tape.size() - 1);
            }
            return 1;
        }

        Token next() {
            return tokens.get(at++);
        }

        Token peek() {
            return tokens.get(at);
        }

        int number(int least, int most) {
            Token t = next();
            if (t.type != 'n') {
                throw t.fault(1);
            }
            int n = Integer.parseInt(t.text);
            if (n < least || n > most) {
                throw t.fault(2);
            }
            return n;
        }

        int name(Town t, String kinds) {
            Token k = next();
            if (!k.isName()) {
                throw k.fault(1);
            }
            String found = t.names.get(k.text);
            if (found == null || kinds.indexOf(found.charAt(0)) < 0) {
                throw k.fault(3);
            }
            return Integer.parseInt(found.substring(1));
        }

        void tell(Town t, String what) {
            Token k = next();
            if (!k.isName()) {
                throw k.fault(1);
            }
            if (t.names.containsKey(k.text)) {
                throw k.fault(3);
            }
            t.names.put(k.text, what);
        }

        void semicolon() {
            Token k = next();
            if (k.type != ';') {
                throw k.fault(1);
            }
        }

        int town() {
            tokens = tokens(takeTape(), 900);
            at = 0;
            fault = 0;
            Town t = new Town();
            int lines = 0;
            try {
                while (peek().type != '$') {
                    townLine(t);
                    semicolon();
                    lines++;
                }
            } catch (Fault f) {
                fault = f.kind;
                return -1 - f.place;
            }
            town = t;
            world = fresh(t);
            sentence = null;
            past.clear();
            return lines;
        }

        void limit(Token first, int now, int most) {
            if (now >= most) {
                throw first.fault(4);
            }
        }

        void townLine(Town t) {
            Token first = next();
            if (first.is("sort")) {
                limit(first, t.sorts.size(), 6);
                tell(t, "s" + t.sorts.size());
                boolean fixed = peek().is("fixed");
                at += fixed ? 1 : 0;
                t.sorts.add(fixed);
            } else if (first.is("talks")) {
                limit(first, t.talkLines++, 8);
                int a = name(t, "s");
                int b = name(t, "s");
                if (a == b || !t.talks.add(Math.min(a, b) + "-" + Math.max(a, b))) {
                    throw tokens.get(at - 1).fault(3);
                }
            } else if (first.is("person")) {
                limit(first, t.persons.size(), 5);
                tell(t, "m" + t.persons.size());
                t.persons.add(number(0, 999));
            } else if (first.is("porter")) {
                limit(first, t.porters.size(), 5);
                tell(t, "r" + t.porters.size());
                Porter r = new Porter();
                r.strength = number(1, 40);
                r.fee = number(0, 20);
                t.porters.add(r);
            } else if (first.is("bars")) {
                limit(first, t.barLines++, 8);
                int r = name(t, "r");
                if (!t.porters.get(r).bars.add(name(t, "s"))) {
                    throw tokens.get(at - 1).fault(3);
                }
            } else if (first.is("pain")) {
                limit(first, t.pains.size(), 8);
                tell(t, "p" + t.pains.size());
                Told p = new Told();
                p.owner = name(t, "m");
                p.sort = name(t, "s");
                p.weight = number(1, 9);
                p.hours = number(1, 200);
                t.pains.add(p);
            } else if (first.is("harm")) {
                if (t.harmTold) {
                    throw first.fault(3);
                }
                t.harmTold = true;
                t.harm = number(0, 12);
            } else {
                throw first.fault(1);
            }
        }

        // ---- what is so

        int bits(java.util.function.IntPredicate which) {
            int set = 0;
            for (int p = 0; p < town.pains.size(); p++) {
                set |= which.test(p) ? 1 << p : 0;
            }
            return set;
        }

        boolean learnt(World w, int r, int s) {
            return w.practice.getOrDefault(r + "/" + s, 0) >= 10;
        }

        int heave(World w, int r, int p) {
            Told t = town.pains.get(p);
            return learnt(w, r, t.sort) ? Math.max(1, t.weight - 1) : t.weight;
        }

        List<Integer> having(World w, String at) {
            List<Integer> all = new ArrayList<>();
            for (int p = 0; p < w.pains.size(); p++) {
                if (w.pains.get(p).at.equals(at)) {
                    all.add(p);
                }
            }
            return all;
        }

        int weight(World w, int m) {
            return having(w, "m" + m).stream().mapToInt(p -> town.pains.get(p).weight).sum();
        }

        int painless(World w) {
            int set = 0;
            for (int m = 0; m < town.persons.size(); m++) {
                set |= having(w, "m" + m).isEmpty() ? 1 << m : 0;
            }
            return set;
        }

        int cant(World w, int r, int p, List<Integer> others) {
            Told t = town.pains.get(p);
            if (town.sorts.get(t.sort) || town.porters.get(r).bars.contains(t.sort)) {
                return 2;
            }
            int all = heave(w, r, p);
            boolean talks = false;
            for (int q : others) {
                if (q != p) {
                    talks |= town.talk(t.sort, town.pains.get(q).sort);
                    all += heave(w, r, q);
                }
            }
            return talks ? 3 : all > town.porters.get(r).strength ? 4 : 0;
        }

        int cant(World w, int r, int p) {
            return cant(w, r, p, having(w, "r" + r));
        }

        boolean isPerson(int m) {
            return m >= 0 && m < town.persons.size();
        }

        boolean isPorter(int r) {
            return r >= 0 && r < town.porters.size();
        }

        boolean isPain(int p) {
            return p >= 0 && p < town.pains.size();
        }

        int place(World w, int p) {
            String at = w.pains.get(p).at;
            switch (at.charAt(0)) {
                case 'm': return Integer.parseInt(at.substring(1));
                case 'r': return 10 + Integer.parseInt(at.substring(1));
                case 's': return 20;
                default: return 30;
            }
        }

        int pain(int p, int what) {
            if (!isPain(p) || what < 0 || what > 6) {
                return THROWN;
            }
            Told t = town.pains.get(p);
            Pain q = world.pains.get(p);
            return new int[] {t.owner, t.sort, t.weight, q.left, place(world, p), q.drops, q.paid}[what];
        }

        int person(int m, int what) {
            if (!isPerson(m) || what < 0 || what > 4) {
                return -1;
            }
            int his = bits(p -> town.pains.get(p).owner == m && !world.pains.get(p).at.equals("over"));
            int with = bits(p -> world.pains.get(p).at.equals("m" + m));
            return new int[] {world.coin[m], his, with, weight(world, m), world.spent[m]}[what];
        }

        int porter(int r, int what) {
            if (!isPorter(r) || what < 0 || what > 6) {
                return THROWN;
            }
            Porter t = town.porters.get(r);
            int learnt = 0;
            for (int s = 0; s < town.sorts.size(); s++) {
                learnt |= learnt(world, r, s) ? 1 << s : 0;
            }
            int bars = 0;
            for (int s : t.bars) {
                bars |= 1 << s;
            }
            List<Integer> his = having(world, "r" + r);
            int heaved = his.stream().mapToInt(p -> heave(world, r, p)).sum();
            return new int[] {t.strength, t.fee, bits(his::contains), heaved, world.earned[r], learnt, bars}[what];
        }

        int sort(int s, int what) {
            if (s < 0 || s >= town.sorts.size() || what < 0 || what > 1) {
                return -1;
            }
            int set = 0;
            for (int o = 0; o < town.sorts.size(); o++) {
                set |= town.talk(s, o) ? 1 << o : 0;
            }
            return what == 1 ? set : town.sorts.get(s) ? 1 : 0;
        }

        int now(int what) {
            switch (what) {
                case 0: return world.hour;
                case 1: return painless(world);
                case 2: return bits(p -> place(world, p) == 20);
                case 3: return bits(p -> place(world, p) == 30);
                case 4: return Arrays.stream(world.coin).sum();
                case 5: return Arrays.stream(world.earned).sum();
                case 6: return bits(p -> place(world, p) / 10 == 1);
                default: return -1;
            }
        }

        // ---- acts; each changes the world if it may

        int fetch(World w, int r, int p) {
            int why = w.pains.get(p).at.charAt(0) != 'm' ? 1 : cant(w, r, p);
            if (why == 0 && w.coin[town.pains.get(p).owner] < town.porters.get(r).fee) {
                why = 5;
            }
            if (why == 0) {
                w.pains.get(p).at = "r" + r;
            }
            return why;
        }

        int hand(World w, int r, int p, int o) {
            int why = w.pains.get(p).at.equals("r" + r) ? cant(w, o, p) : 1;
            if (why == 0) {
                w.pains.get(p).at = "r" + o;
            }
            return why;
        }

        int drop(World w, int r, int p) {
            if (!w.pains.get(p).at.equals("r" + r)) {
                return 1;
            }
            w.pains.get(p).at = "street";
            w.pains.get(p).drops++;
            return 0;
        }

        int home(World w, int p) {
            String mine = "m" + town.pains.get(p).owner;
            if (w.pains.get(p).at.equals("over") || w.pains.get(p).at.equals(mine)) {
                return 1;
            }
            w.pains.get(p).at = mine;
            return 0;
        }

        void hour(World w) {
            for (int p = 0; p < w.pains.size(); p++) {
                Pain q = w.pains.get(p);
                if (q.at.charAt(0) == 'r') {
                    int r = Integer.parseInt(q.at.substring(1));
                    int m = town.pains.get(p).owner;
                    int fee = town.porters.get(r).fee;
                    if (w.coin[m] >= fee) {
                        w.coin[m] -= fee;
                        w.spent[m] += fee;
                        w.earned[r] += fee;
                        q.paid++;
                    } else {
                        q.at = "m" + m;
                    }
                }
            }
            for (int r = 0; r < town.porters.size(); r++) {
                Set<Integer> sorts = new TreeSet<>();
                for (int p : having(w, "r" + r)) {
                    sorts.add(town.pains.get(p).sort);
                }
                for (int s : sorts) {
                    w.practice.merge(r + "/" + s, 1, Integer::sum);
                }
            }
            for (Pain q : w.pains) {
                if (!q.at.equals("over") && --q.left == 0) {
                    q.at = "over";
                }
            }
            for (Pain q : w.pains) {
                if (q.at.equals("street")) {
                    q.at = "m" + w.hour % town.persons.size();
                }
            }
            w.hour++;
        }

        void push(World before) {
            past.addLast(before);
            while (past.size() > 8) {
                past.removeFirst();
            }
        }

        int done(int why, World before) {
            if (why == 0) {
                push(before);
            }
            return why;
        }

        int fetch(int r, int p) {
            return isPorter(r) && isPain(p) ? done(fetch(world, r, p), ahead) : -1;
        }

        int hand(int r, int p, int o) {
            return isPorter(r) && isPain(p) && isPorter(o) && r != o ? done(hand(world, r, p, o), ahead) : -1;
        }

        int drop(int r, int p) {
            return isPorter(r) && isPain(p) ? done(drop(world, r, p), ahead) : -1;
        }

        int home(int p) {
            return isPain(p) ? done(home(world, p), ahead) : -1;
        }

        int hours(int n) {
            if (n < 1 || n > 60) {
                return -1;
            }
            int gone = 0;
            for (; gone < n && world.hour < 600; gone++) {
                hour(world);
            }
            if (gone > 0) {
                push(ahead);
            }
            return gone;
        }

        int undo() {
            if (past.isEmpty()) {
                return -1;
            }
            world = past.removeLast();
            return past.size();
        }

        int can(int r, int p) {
            return isPorter(r) && isPain(p) && place(world, p) != 30 ? cant(world, r, p) : -1;
        }

        /** All ways in which some PAINS go to PORTERS, in the order that the document tells: the first of the least. */
        int[] leastWay(List<Integer> pains, boolean besides, java.util.function.ToIntFunction<int[]> cost) {
            int porters = town.porters.size();
            int[] best = null;
            int least = Integer.MAX_VALUE;
            int all = 1;
            for (int i = 0; i < pains.size(); i++) {
                all *= porters;
            }
            for (int code = 0; code < all; code++) {
                int[] way = new int[pains.size()];
                int rest = code;
                for (int i = way.length - 1; i >= 0; i--) {
                    way[i] = rest % porters;
                    rest /= porters;
                }
                if (cost.applyAsInt(way) < least && holds(pains, way, besides)) {
                    least = cost.applyAsInt(way);
                    best = way;
                }
            }
            return best;
        }

        boolean holds(List<Integer> pains, int[] way, boolean besides) {
            for (int r = 0; r < town.porters.size(); r++) {
                List<Integer> his = besides ? having(world, "r" + r) : new ArrayList<>();
                for (int i = 0; i < way.length; i++) {
                    if (way[i] == r) {
                        his.add(pains.get(i));
                    }
                }
                for (int i = 0; i < way.length; i++) {
                    if (way[i] == r && cant(world, r, pains.get(i), his) != 0) {
                        return false;
                    }
                }
            }
            return true;
        }

        int free(int set, int n) {
            if (set < 0 || set >= 1 << town.persons.size() || n < 1 || n > 200) {
                return -1;
            }
            List<Integer> pains = new ArrayList<>();
            for (int p = 0; p < town.pains.size(); p++) {
                if (place(world, p) < 10 && (set >> place(world, p) & 1) == 1) {
                    pains.add(p);
                }
            }
            java.util.function.ToIntFunction<int[]> cost = way -> {
                int sum = 0;
                for (int i = 0; i < way.length; i++) {
                    sum += town.porters.get(way[i]).fee * Math.min(n, world.pains.get(pains.get(i)).left);
                }
                return sum;
            };
            int[] way = leastWay(pains, true, cost);
            if (way == null) {
                return -1;
            }
            by = told(pains, way);
            return cost.applyAsInt(way);
        }

        Map<Integer, Integer> told(List<Integer> pains, int[] way) {
            Map<Integer, Integer> map = new HashMap<>();
            for (int i = 0; i < way.length; i++) {
                map.put(pains.get(i), way[i]);
            }
            return map;
        }

        int fewest(int set) {
            if (set < 0 || set >= 1 << town.pains.size()) {
                return -1;
            }
            List<Integer> pains = new ArrayList<>();
            for (int p = 0; p < town.pains.size(); p++) {
                if ((set >> p & 1) == 1) {
                    if (place(world, p) == 30) {
                        return -1;
                    }
                    pains.add(p);
                }
            }
            java.util.function.ToIntFunction<int[]> cost = way -> (int) Arrays.stream(way).distinct().count();
            int[] way = leastWay(pains, false, cost);
            if (way == null) {
                return -1;
            }
            load = told(pains, way);
            return cost.applyAsInt(way);
        }

        int limps() {
            String text = takeTape();
            List<Integer> lost = having(world, "street");
            int persons = town.persons.size();
            if (persons < 1 || text.length() != persons || lost.size() > 4) {
                return -1;
            }
            int ways = 0;
            Map<Integer, Set<Integer>> found = new LinkedHashMap<>();
            for (int p : lost) {
                found.put(p, new TreeSet<>());
            }
            int all = (int) Math.pow(persons + 1, lost.size());
            for (int code = 0; code < all; code++) {
                int[] bears = new int[persons + 1];
                for (int m = 0; m < persons; m++) {
                    bears[m] = weight(world, m);
                }
                int rest = code;
                for (int p : lost) {
                    bears[rest % (persons + 1)] += town.pains.get(p).weight;
                    rest /= persons + 1;
                }
                boolean good = true;
                for (int m = 0; m < persons; m++) {
                    good &= bears[m] == text.charAt(m);
                }
                rest = code;
                for (int p : lost) {
                    if (good) {
                        found.get(p).add(rest % (persons + 1) == persons ? 5 : rest % (persons + 1));
                    }
                    rest /= persons + 1;
                }
                ways += good ? 1 : 0;
            }
            if (ways > 0) {
                limps = found;
            }
            return ways;
        }

        int surely(int p) {
            if (!isPain(p) || !limps.containsKey(p) || limps.get(p).size() != 1) {
                return -1;
            }
            return limps.get(p).iterator().next();
        }

        int ask() {
            int best = -1;
            for (int p : limps.keySet()) {
                if (best < 0 || limps.get(p).size() > limps.get(best).size()) {
                    best = p;
                }
            }
            return best;
        }

        int share(int w, int r) {
            if (w < 0 || w > 999 || !isPorter(r)) {
                return -1;
            }
            int all = town.porters.stream().mapToInt(o -> o.strength).sum();
            List<Integer> order = new ArrayList<>();
            int left = w;
            int[] part = new int[town.porters.size()];
            for (int o = 0; o < part.length; o++) {
                part[o] = w * town.porters.get(o).strength / all;
                left -= part[o];
                order.add(o);
            }
            order.sort((a, b) -> w * town.porters.get(b).strength % all - w * town.porters.get(a).strength % all);
            for (int i = 0; i < left; i++) {
                part[order.get(i)]++;
            }
            return part[r];
        }

        int rest() {
            fees = town.porters.stream().mapToInt(r -> r.fee).toArray();
            World w = new World();
            w.pains = fresh(town).pains;
            for (int round = 1; ; round++) {
                for (int p = 0; p < w.pains.size(); p++) {
                    w.pains.get(p).at = "nobody";
                }
                for (int p = 0; p < w.pains.size(); p++) {
                    int best = -1;
                    for (int r = 0; r < fees.length; r++) {
                        if (cant(w, r, p) == 0 && (best < 0 || fees[r] < fees[best])) {
                            best = r;
                        }
                    }
                    if (best >= 0 && place(world, p) != 30) {
                        w.pains.get(p).at = "r" + best;
                    }
                }
                int[] before = fees.clone();
                for (int r = 0; r < fees.length; r++) {
                    List<Integer> his = having(w, "r" + r);
                    int weight = his.stream().mapToInt(p -> town.pains.get(p).weight).sum();
                    if (his.isEmpty()) {
                        fees[r] = fees[r] == 0 ? 0 : fees[r] - 1;
                    } else if (weight == town.porters.get(r).strength) {
                        fees[r] = fees[r] == 20 ? 20 : fees[r] + 1;
                    }
                }
                if (Arrays.equals(before, fees) || round == 40) {
                    return round;
                }
            }
        }

        int unharmed(int n, int what) {
            if (n < 0 || n > 6 || what < 0 || what > 1) {
                return THROWN;
            }
            java.math.BigInteger a = java.math.BigInteger.valueOf(12 - town.harm).pow(n);
            java.math.BigInteger b = java.math.BigInteger.valueOf(12).pow(n);
            return (what == 0 ? a : b).divide(a.gcd(b)).intValueExact();
        }

        int ease(int m) {
            if (!isPerson(m)) {
                return -1;
            }
            World w = world.copy();
            while (w.hour < 600 && !having(w, "m" + m).isEmpty()) {
                hour(w);
            }
            return w.hour < 600 ? w.hour : -1;
        }

        int later(int m, int h) {
            if (!isPerson(m) || h < world.hour || h > 600) {
                return -1;
            }
            World w = world.copy();
            while (w.hour < h) {
                hour(w);
            }
            return weight(w, m);
        }

        int lasts(int p) {
            if (!isPain(p) || place(world, p) / 10 != 1) {
                return -1;
            }
            World w = world.copy();
            int hours = 0;
            while (w.pains.get(p).at.equals(world.pains.get(p).at)) {
                int before = w.pains.get(p).paid;
                hour(w);
                hours += w.pains.get(p).paid - before;
            }
            return hours;
        }

        int cheapest(int p) {
            if (!isPain(p) || place(world, p) == 30) {
                return -1;
            }
            int best = -1;
            for (int r = town.porters.size() - 1; r >= 0; r--) {
                boolean can = place(world, p) != 10 + r && cant(world, r, p) == 0;
                if (can && (best < 0 || town.porters.get(r).fee <= town.porters.get(best).fee)) {
                    best = r;
                }
            }
            return best;
        }

        int hopeless() {
            return bits(p -> {
                boolean some = place(world, p) == 30;
                for (int r = 0; r < town.porters.size(); r++) {
                    some |= cant(world, r, p) == 0;
                }
                return !some;
            });
        }

        int x;

        int draw(int n) {
            x = x * 1103515245 + 12345;
            return (x >>> 8) % n;
        }

        void drawnHour(World w) {
            for (int r = 0; r < town.porters.size(); r++) {
                int d = draw(4);
                if (d == 0) {
                    fetch(w, r, draw(w.pains.size()));
                } else if (d == 1) {
                    drop(w, r, draw(w.pains.size()));
                } else if (d == 2) {
                    int p = draw(w.pains.size());
                    int o = draw(town.porters.size());
                    if (o != r) {
                        hand(w, r, p, o);
                    }
                }
            }
            hour(w);
        }

        int drawn(int n, int seed) {
            if (n < 1 || n > 60 || town.porters.isEmpty() || town.pains.isEmpty()) {
                return -1;
            }
            x = seed;
            int gone = 0;
            for (; gone < n && world.hour < 600; gone++) {
                drawnHour(world);
            }
            if (gone > 0) {
                push(ahead);
            }
            return gone;
        }

        int odds(int m, int n, int seed) {
            if (!isPerson(m) || n < 1 || n > 30 || town.porters.isEmpty() || town.pains.isEmpty()) {
                return -1;
            }
            int free = 0;
            for (int i = 0; i < n; i++) {
                World w = world.copy();
                x = seed + i;
                for (int h = 0; h < 10 && w.hour < 600; h++) {
                    drawnHour(w);
                }
                free += having(w, "m" + m).isEmpty() ? 1 : 0;
            }
            return free;
        }

        int log(int lives) {
            if (lives != 0 && lives != 1) {
                return -1000;
            }
            tokens = tokens(takeTape(), 400);
            at = 0;
            fault = 0;
            List<int[]> lines = new ArrayList<>();
            try {
                while (peek().type != '$') {
                    lines.add(logLine(lines.size()));
                    semicolon();
                }
            } catch (Fault f) {
                fault = f.kind;
                return -2 - f.place;
            }
            World w = lives == 1 ? world : world.copy();
            if (lives == 1) {
                push(ahead);
            }
            int why = 0;
            int good = 0;
            for (; good < lines.size(); good++) {
                why = live(w, lines.get(good));
                if (why != 0) {
                    break;
                }
            }
            logged = new int[] {why, good, w.hour, painless(w)};
            return why == 0 ? -1 : good;
        }

        int[] logLine(int already) {
            Token first = next();
            if (first.is("hour")) {
                limit(first, already, 40);
                return new int[] {'t', number(1, 60)};
            }
            if (!first.isName()) {
                throw first.fault(1);
            }
            at--;
            int n = name(town, "rp");
            limit(first, already, 40);
            Token act = next();
            if (town.names.get(first.text).charAt(0) == 'p') {
                if (!act.is("home")) {
                    throw act.fault(1);
                }
                return new int[] {'b', n};
            }
            if (act.is("fetches") || act.is("drops")) {
                return new int[] {act.text.charAt(0), n, name(town, "p")};
            }
            if (!act.is("hands")) {
                throw act.fault(1);
            }
            return new int[] {'h', n, name(town, "p"), name(town, "r")};
        }

        int live(World w, int[] line) {
            int why;
            switch (line[0]) {
                case 'f':
                    return fetch(w, line[1], line[2]);
                case 'h':
                    why = line[1] == line[3] ? 9 : hand(w, line[1], line[2], line[3]);
                    return why == 0 ? 0 : 10 + why;
                case 'd':
                    why = drop(w, line[1], line[2]);
                    return why == 0 ? 0 : 20 + why;
                case 'b':
                    why = home(w, line[1]);
                    return why == 0 ? 0 : 30 + why;
                default:
                    if (w.hour + line[1] > 600) {
                        return 41;
                    }
                    for (int i = 0; i < line[1]; i++) {
                        hour(w);
                    }
                    return 0;
            }
        }

        int logged(int what) {
            return logged == null || what < 0 || what > 3 ? -1 : logged[what];
        }

        int sentence() {
            tokens = tokens(takeTape(), 200);
            at = 0;
            fault = 0;
            ones = 0;
            try {
                BiPredicate<World, Integer> read = cond(1);
                if (next().type != '$') {
                    throw tokens.get(at - 1).fault(1);
                }
                sentence = read;
                return ones;
            } catch (Fault f) {
                fault = f.kind;
                return -1 - f.place;
            }
        }

        BiPredicate<World, Integer> cond(int depth) {
            BiPredicate<World, Integer> all = all(depth);
            while (peek().is("or")) {
                at++;
                all = all.or(all(depth));
            }
            return all;
        }

        BiPredicate<World, Integer> all(int depth) {
            BiPredicate<World, Integer> all = one(depth);
            while (peek().is("and")) {
                at++;
                all = all.and(one(depth));
            }
            return all;
        }

        BiPredicate<World, Integer> one(int depth) {
            Token first = next();
            List<String> begins = Arrays.asList("not", "carried", "lost", "over", "of", "with", "is", "weight", "left", "number");
            if (first.type != '(' && !(first.type == 'w' && begins.contains(first.text))) {
                throw first.fault(1);
            }
            if (++ones > 20 || depth > 8) {
                throw first.fault(4);
            }
            if (first.type == '(') {
                BiPredicate<World, Integer> inside = cond(depth + 1);
                if (next().type != ')') {
                    throw tokens.get(at - 1).fault(1);
                }
                return inside;
            }
            switch (first.text) {
                case "not": return one(depth + 1).negate();
                case "carried": return (w, p) -> place(w, p) >= 10 && place(w, p) < 20;
                case "lost": return (w, p) -> place(w, p) == 20;
                case "over": return (w, p) -> place(w, p) == 30;
                case "of":
                    int m = name(town, "m");
                    return (w, p) -> town.pains.get(p).owner == m;
                case "with":
                    name(town, "mr");
                    String who = town.names.get(tokens.get(at - 1).text);
                    return (w, p) -> w.pains.get(p).at.equals(who);
                case "is":
                    int s = name(town, "s");
                    return (w, p) -> town.pains.get(p).sort == s;
                default:
                    Token sign = next();
                    if ("<=>".indexOf(sign.type) < 0) {
                        throw sign.fault(1);
                    }
                    int n = number(0, 999);
                    return (w, p) -> {
                        int value = first.text.equals("weight") ? town.pains.get(p).weight
                                : first.text.equals("left") ? w.pains.get(p).left : p;
                        return Integer.signum(Integer.compare(value, n)) == "<=>".indexOf(sign.type) - 1;
                    };
            }
        }

        int said(int k) {
            if (sentence == null) {
                return -1;
            }
            List<Integer> all = new ArrayList<>();
            for (int p = 0; p < town.pains.size(); p++) {
                if (sentence.test(world, p)) {
                    all.add(p);
                }
            }
            return k == -1 ? all.size() : k >= 0 && k < all.size() ? all.get(k) : -1;
        }

        int image(int k) {
            if (k != 0 && k != 1) {
                return 0;
            }
            images[k] = new Object[] {town, world.copy(), sentence};
            return 1;
        }

        @SuppressWarnings("unchecked")
        int restore(int k) {
            if (k != 0 && k != 1 || images[k] == null) {
                return 0;
            }
            town = (Town) images[k][0];
            world = ((World) images[k][1]).copy();
            sentence = (BiPredicate<World, Integer>) images[k][2];
            past.clear();
            return 1;
        }

        int count(int what) {
            switch (what) {
                case 0: return town.sorts.size();
                case 1: return town.persons.size();
                case 2: return town.porters.size();
                case 3: return town.pains.size();
                case 4: return town.harm;
                case 5: return tape.size();
                default: return -1;
            }
        }
    }

    // ---- the runs

    static final String[] FACE = {"pain", "person", "porter", "sort", "now", "fetch", "hand", "drop", "home", "hours", "undo",
        "can", "free", "by", "fewest", "load", "limps", "surely", "ask", "share", "rest", "fee", "unharmed", "ease", "later",
        "lasts", "cheapest", "hopeless", "drawn", "odds", "logged", "said", "image", "restore", "count", "fault"};

    static int of(boolean b) {
        return b ? 1 : 0;
    }

    static int call(PainPorters x, String name, int[] a) {
        try {
            switch (name) {
                case "pain": return x.pain(a[0], a[1]);
                case "person": return x.person(a[0], a[1]);
                case "porter": return x.porter(a[0], a[1]);
                case "sort": return x.sort(a[0], a[1]);
                case "now": return x.now(a[1]);
                case "fetch": return x.fetch(a[0], a[1]);
                case "hand": return x.hand(a[0], a[1], a[2]);
                case "drop": return x.drop(a[0], a[1]);
                case "home": return x.home(a[1]);
                case "hours": return x.hours(a[1]);
                case "undo": return x.undo();
                case "can": return x.can(a[0], a[1]);
                case "free": return x.free(a[0], a[1]);
                case "by": return x.by(a[1]);
                case "fewest": return x.fewest(a[0]);
                case "load": return x.load(a[1]);
                case "limps": return x.limps();
                case "surely": return x.surely(a[1]);
                case "ask": return x.ask();
                case "share": return x.share(a[1], a[0]);
                case "rest": return x.rest();
                case "fee": return x.fee(a[0]);
                case "unharmed": return x.unharmed(a[0], a[1]);
                case "ease": return x.ease(a[0]);
                case "later": return x.later(a[0], a[1]);
                case "lasts": return x.lasts(a[1]);
                case "cheapest": return x.cheapest(a[1]);
                case "hopeless": return x.hopeless();
                case "drawn": return x.drawn(a[0], a[1]);
                case "odds": return x.odds(a[0], a[1], a[2]);
                case "logged": return x.logged(a[1]);
                case "said": return x.said(a[1]);
                case "image": return of(x.image(a[0]));
                case "restore": return of(x.restore(a[0]));
                case "count": return x.count(a[1]);
                case "fault": return x.fault();
                case "feed": return x.feed(a[0], a[1], a[2], a[3], a[4]);
                case "end": return of(x.end(a[0]));
                case "town": return x.town();
                case "log": return x.log(a[0]);
                default: return x.sentence();
            }
        } catch (NoSuchElementException e) {
            return THROWN;
        }
    }

    static int call(Model x, String name, int[] a) {
        x.ahead = x.world.copy();
        switch (name) {
            case "pain": return x.pain(a[0], a[1]);
            case "person": return x.person(a[0], a[1]);
            case "porter": return x.porter(a[0], a[1]);
            case "sort": return x.sort(a[0], a[1]);
            case "now": return x.now(a[1]);
            case "fetch": return x.fetch(a[0], a[1]);
            case "hand": return x.hand(a[0], a[1], a[2]);
            case "drop": return x.drop(a[0], a[1]);
            case "home": return x.home(a[1]);
            case "hours": return x.hours(a[1]);
            case "undo": return x.undo();
            case "can": return x.can(a[0], a[1]);
            case "free": return x.free(a[0], a[1]);
            case "by": return x.isPain(a[1]) ? x.by.getOrDefault(a[1], -1) : -1;
            case "fewest": return x.fewest(a[0]);
            case "load": return x.isPain(a[1]) ? x.load.getOrDefault(a[1], -1) : -1;
            case "limps": return x.limps();
            case "surely": return x.surely(a[1]);
            case "ask": return x.ask();
            case "share": return x.share(a[1], a[0]);
            case "rest": return x.rest();
            case "fee": return x.isPorter(a[0]) && a[0] < x.fees.length ? x.fees[a[0]] : -1;
            case "unharmed": return x.unharmed(a[0], a[1]);
            case "ease": return x.ease(a[0]);
            case "later": return x.later(a[0], a[1]);
            case "lasts": return x.lasts(a[1]);
            case "cheapest": return x.cheapest(a[1]);
            case "hopeless": return x.hopeless();
            case "drawn": return x.drawn(a[0], a[1]);
            case "odds": return x.odds(a[0], a[1], a[2]);
            case "logged": return x.logged(a[1]);
            case "said": return x.said(a[1]);
            case "image": return x.image(a[0]);
            case "restore": return x.restore(a[0]);
            case "count": return x.count(a[1]);
            case "fault": return x.fault;
            case "feed": return x.feed(a);
            case "end": return x.end(a[0]);
            case "town": return x.town();
            case "log": return x.log(a[0]);
            default: return x.sentence();
        }
    }

    static final Random random = new Random(20261117);
    static PainPorters real;
    static Model model;
    static List<String> trace;
    static final Map<String, Integer> seen = new LinkedHashMap<>();
    static int calls;

    static int both(String name, int... a) {
        int want = call(model, name, a);
        int got = call(real, name, a);
        calls++;
        trace.add(name + Arrays.toString(a) + " -> " + want);
        seen.merge(name + (want == THROWN ? " throws" : want == -1 ? " NONE" : want < -1 ? " fault" : ""), 1, Integer::sum);
        if (got != want) {
            trace.forEach(System.out::println);
            System.out.println("the last one answered " + got);
            System.exit(1);
        }
        return want;
    }

    static int pick(int n) {
        return random.nextInt(n);
    }

    static int some(List<?> list) {
        return Math.max(1, list.size());
    }

    static String pick(String... of) {
        return of[pick(of.length)];
    }

    static final String[] SORTS = {"ache", "grief", "limp", "itch", "cramp", "burns", "dread"};
    static final String[] PERSONS = {"ann", "bob", "cid", "dot", "eve", "fay"};
    static final String[] PORTERS = {"pim", "rex", "sam", "tom", "una", "vic"};
    static final String[] PAINS = {"a", "b", "c", "d", "e", "f", "g", "h", "i"};

    static String joinLines(List<String> lines) {
        StringBuilder text = new StringBuilder();
        for (String line : lines) {
            text.append(line).append(pick(9) == 0 ? " ;\n" : ";");
        }
        return text.toString();
    }

    /** A TOWN that is good but for too many of a kind at times, or told twice. */
    static String townText(boolean wild) {
        int sorts = 1 + pick(wild ? 7 : 6);
        int persons = 1 + pick(wild ? 6 : 5);
        int porters = pick(8) == 0 ? 0 : 1 + pick(wild ? 6 : 5);
        int pains = pick(12) == 0 ? 0 : 1 + pick(wild ? 9 : 8);
        int strong = 5 + pick(36);
        int dear = 1 + pick(21);
        int rich = 1 + pick(1000);
        int lasting = pick(3) == 0 ? 200 : 1 + pick(40);
        List<String> lines = new ArrayList<>();
        for (int s = 0; s < sorts; s++) {
            lines.add("sort " + SORTS[s] + (pick(8) == 0 ? " fixed" : ""));
        }
        for (int m = 0; m < persons; m++) {
            lines.add("person " + PERSONS[m] + " " + pick(rich));
        }
        for (int r = 0; r < porters; r++) {
            lines.add("porter " + PORTERS[r] + " " + (1 + pick(strong)) + " " + pick(dear));
        }
        for (int p = 0; p < pains; p++) {
            lines.add("pain " + PAINS[p] + " " + PERSONS[pick(persons)] + " " + SORTS[pick(sorts)] + " " + (1 + pick(9)) + " "
                    + (1 + pick(lasting)));
        }
        Set<String> pairs = new TreeSet<>();
        for (int i = pick(10); i > 0; i--) {
            int a = pick(sorts);
            int b = pick(sorts);
            if (wild || a != b && pairs.size() < 8 && pairs.add(Math.min(a, b) + " " + Math.max(a, b))) {
                lines.add("talks " + SORTS[a] + " " + SORTS[b]);
            }
        }
        pairs.clear();
        for (int i = porters == 0 ? 0 : pick(10); i > 0; i--) {
            int r = pick(porters);
            int s = pick(sorts);
            if (wild || pairs.size() < 8 && pairs.add(r + " " + s)) {
                lines.add("bars " + PORTERS[r] + " " + SORTS[s]);
            }
        }
        if (pick(2) == 0) {
            lines.add(pick(lines.size() + 1), "harm " + pick(13));
        }
        return joinLines(lines);
    }

    static String logText(boolean wild) {
        List<String> lines = new ArrayList<>();
        int many = wild && pick(6) == 0 ? 39 + pick(4) : pick(12);
        boolean brief = many > 20;
        for (int i = 0; i < many; i++) {
            String r = PORTERS[pick(wild ? 6 : some(model.town.porters))];
            String p = PAINS[pick(wild ? 9 : some(model.town.pains))];
            switch (brief ? 4 + pick(2) : pick(7)) {
                case 0:
                    lines.add(r + " drops " + p);
                    break;
                case 1:
                    lines.add(r + " hands " + p + " " + PORTERS[pick(some(model.town.porters))]);
                    break;
                case 2:
                case 3:
                    lines.add(r + " fetches " + p);
                    break;
                case 4:
                    lines.add(p + " home");
                    break;
                default:
                    lines.add("hour " + (1 + pick(pick(3) == 0 ? 61 : 4)));
                    break;
            }
        }
        return joinLines(lines);
    }

    static String sentenceText(int depth, boolean wild) {
        StringBuilder text = new StringBuilder();
        int parts = 1 + pick(depth > 2 ? 2 : 3);
        for (int i = 0; i < parts; i++) {
            text.append(i == 0 ? "" : pick(" and ", " or "));
            int d = pick(wild ? 9 : 8);
            if (d < 2 && depth < 10) {
                text.append("not ").append(pick(2) == 0 ? "(" + sentenceText(depth + 2, wild) + ")" : oneText(wild));
            } else if (d == 2 && depth < 10 || d == 8) {
                text.append(depth < 12 ? "(" + sentenceText(depth + 1, wild) + ")" : "lost");
            } else {
                text.append(oneText(wild));
            }
        }
        return text.toString();
    }

    static String oneText(boolean wild) {
        switch (pick(8)) {
            case 0: return pick("carried", "lost", "over");
            case 1: return "of " + PERSONS[pick(wild ? 6 : some(model.town.persons))];
            case 2: return "with " + (pick(2) == 0 ? PERSONS[pick(wild ? 6 : some(model.town.persons))] : PORTERS[pick(wild ? 6 : some(model.town.porters))]);
            case 3: return "is " + SORTS[pick(wild ? 7 : some(model.town.sorts))];
            case 4: return "weight" + pick("<", "=", ">") + pick(11);
            case 5: return "left " + pick("<", "=", "> ") + pick(30);
            case 6: return "number" + pick(" < ", "=", ">") + pick(9);
            default: return pick("carried", "lost", "over");
        }
    }

    static String spoilt(String text) {
        StringBuilder out = new StringBuilder(text);
        for (int i = 1 + pick(2); i > 0; i--) {
            int at = pick(out.length() + 1);
            String bit = pick(" ", ";", "x", "7", "0", "(", ")", "<", "sort ", " and ", "not ", "\n", "abcdefgh", "1000 ", "\u00e9",
                    "\0", "harm 3;", " fixed", " hour ", "carried ", "10", "a", " pim ", "201", ".");
            int d = pick(3);
            if (d == 0 || out.length() == 0) {
                out.insert(at, bit);
            } else if (d == 1) {
                out.deleteCharAt(pick(out.length()));
            } else {
                int from = pick(out.length());
                out.replace(from, Math.min(out.length(), from + 1 + pick(4)), bit);
            }
        }
        if (pick(10) == 0) {
            out.setLength(pick(out.length() + 1));
        }
        return out.toString();
    }

    /** Blanks in front, so that the text's limit falls into it or next to it. */
    static String pushedTo(String text, int most) {
        int blanks = most - text.length() + pick(9) - 4 - (pick(3) == 0 ? -pick(text.length() + 1) : 0);
        StringBuilder out = new StringBuilder();
        for (int i = 0; i < blanks; i++) {
            out.append(pick(2) == 0 ? ' ' : '\n');
        }
        return out.append(text).append(pick(3) == 0 ? "   " : "").toString();
    }

    static void type(String text) {
        byte[] bytes = text.getBytes(StandardCharsets.ISO_8859_1);
        int length = Math.min(bytes.length, 940);
        byte[] padded = Arrays.copyOf(bytes, 960);
        both("end", 0);
        for (int i = 0; i < length; i += 20) {
            java.nio.IntBuffer n = java.nio.ByteBuffer.wrap(padded, i, 20).asIntBuffer();
            both("feed", n.get(), n.get(), n.get(), n.get(), n.get());
        }
        both("end", length);
    }

    static void typeAndRead(String text, int most, String call, int... a) {
        String typed = pick(4) == 0 ? spoilt(text) : text;
        if (pick(12) == 0) {
            typed = pushedTo(typed, most);
        }
        type(typed);
        both(call, a);
        both("fault");
    }

    static int edge(int most) {
        return pick(20) == 0 ? pick(3) == 0 ? random.nextInt() : -1 - pick(2) : pick(most + 1);
    }

    static void oneCall() {
        String name = FACE[pick(FACE.length)];
        int m = edge(Math.max(0, model.town.persons.size()));
        int r = edge(Math.max(0, model.town.porters.size()));
        int p = edge(Math.max(0, model.town.pains.size()));
        switch (name) {
            case "fetch": case "drop": case "can":
                both(name, r, p);
                break;
            case "hand":
                both(name, r, p, edge(5));
                break;
            case "pain":
                both(name, p, edge(7));
                break;
            case "person":
                both(name, m, edge(5));
                break;
            case "porter":
                both(name, r, edge(7));
                break;
            case "free":
                both(name, edge(1 << model.town.persons.size()), pick(9) == 0 ? edge(201) : 1 + pick(20));
                break;
            case "fewest":
                both(name, edge((1 << model.town.pains.size()) - pick(2)));
                break;
            case "hours":
                both(name, 0, pick(20) == 0 ? edge(61) : 1 + pick(4));
                break;
            case "drawn":
                both(name, pick(9) == 0 ? edge(61) : 1 + pick(5), random.nextInt());
                break;
            case "odds":
                both(name, m, pick(9) == 0 ? edge(31) : 1 + pick(5), random.nextInt());
                break;
            case "later":
                both(name, m, pick(3) == 0 ? edge(601) : model.world.hour + pick(12) - 1);
                break;
            case "share":
                both(name, r, edge(1000));
                break;
            case "ease": case "fee":
                both(name, name.equals("fee") ? r : m, 0);
                break;
            case "image": case "restore":
                both(pick(4) == 0 ? name : "now", edge(2), edge(7));
                break;
            case "limps":
                limp();
                break;
            case "unharmed":
                both(name, edge(7), edge(2));
                break;
            case "said":
                both(name, 0, pick(10) - 2);
                break;
            default:
                both(name, edge(6), edge(8));
                break;
        }
    }

    /** Bytes by a way that may be true, at most times. */
    static void limp() {
        StringBuilder text = new StringBuilder();
        int persons = model.town.persons.size();
        int[] bears = new int[persons];
        for (int m = 0; m < persons; m++) {
            bears[m] = model.weight(model.world, m);
        }
        for (int p : model.having(model.world, "street")) {
            int m = pick(persons + 1);
            if (m < persons) {
                bears[m] += model.town.pains.get(p).weight;
            }
        }
        for (int b : bears) {
            text.append((char) (pick(30) == 0 ? pick(256) : b));
        }
        if (pick(15) == 0) {
            text.append("x");
        }
        type(text.toString());
        both("limps");
        for (int p = 0; p < model.town.pains.size(); p++) {
            both("surely", 0, p);
        }
        both("ask");
        both("count", 0, 5);
    }

    static void lookAtAll() {
        for (int p = 0; p < model.town.pains.size(); p++) {
            for (int what = 0; what < 7; what++) {
                both("pain", p, what);
            }
            both("by", 0, p);
            both("load", 0, p);
        }
        for (int m = 0; m < model.town.persons.size(); m++) {
            for (int what = 0; what < 5; what++) {
                both("person", m, what);
            }
        }
        for (int r = 0; r < model.town.porters.size(); r++) {
            for (int what = 0; what < 7; what++) {
                both("porter", r, what);
            }
        }
    }

    /** Drops many PAINS at once, so that the street is full for LIMPS. */
    static void dropMany() {
        for (int p = 0; p < model.town.pains.size(); p++) {
            for (int r = 0; r < model.town.porters.size(); r++) {
                both("fetch", r, p);
                both("drop", r, p);
            }
        }
        limp();
    }

    static void run() {
        real = new PainPorters();
        model = new Model();
        trace = new ArrayList<>();
        if (pick(10) != 0) {
            typeAndRead(townText(pick(4) == 0), 900, "town");
            if (model.town.persons.isEmpty()) {
                type(townText(false));
                both("town");
            }
        }
        // An object is used for at most 512 calls.
        while (trace.size() < 270) {
            int d = pick(60);
            if (d == 0) {
                typeAndRead(townText(pick(2) == 0), 900, "town");
            } else if (d < 5) {
                typeAndRead(logText(pick(5) == 0), 400, "log", pick(10) == 0 ? edge(3) : pick(2));
                for (int what = 0; what < 5; what++) {
                    both("logged", 0, what);
                }
            } else if (d < 9) {
                typeAndRead(sentenceText(1, pick(4) == 0), 200, "sentence");
                both("said", 0, -1);
            } else if (d == 9) {
                dropMany();
            } else if (d == 11 && pick(4) == 0) {
                for (int i = 0; i < 10; i++) {
                    both("hours", 0, 55 + pick(6));
                }
            } else if (d == 10) {
                both("feed", random.nextInt(), 0, 0, 0, 0);
            } else {
                oneCall();
            }
        }
        lookAtAll();
    }

    public static void main(String[] args) {
        int runs = args.length > 0 ? Integer.parseInt(args[0]) : 1500;
        for (int i = 0; i < runs; i++) {
            run();
        }
        if (args.length > 0) {
            seen.forEach((k, v) -> System.out.println(k + " " + v));
        }
        System.out.println(runs + " runs, " + calls + " calls, all alike");
    }
}
