import java.util.NoSuchElementException;

/** Pains that are carried by another, for a fee: see README.md and the document's promises 1 to 42. */
public final class PainPorters {
    public static final int NONE = -1;

    private static final int TAPE_BYTES = 940;
    private static final int TOWN_BYTES = 900;
    private static final int LOG_BYTES = 400;
    private static final int SENTENCE_BYTES = 200;

    private static final int MOST_SORTS = 6;
    private static final int MOST_TALKS = 8;
    private static final int MOST_PERSONS = 5;
    private static final int MOST_PORTERS = 5;
    private static final int MOST_BARS = 8;
    private static final int MOST_PAINS = 8;
    private static final int MOST_NAMES = MOST_SORTS + MOST_PERSONS + MOST_PORTERS + MOST_PAINS;
    private static final int MOST_LOG_LINES = 40;
    private static final int MOST_ONES = 20;
    private static final int MOST_WITHIN = 8;
    private static final int MOST_UNDONE = 8;
    private static final int MOST_LOST = 4;
    private static final int IMAGES = 2;

    private static final int END_OF_HOURS = 600;
    private static final int MOST_HOURS = 60;
    private static final int LEARNT_AT = 10;
    private static final int MOST_FEE = 20;
    private static final int MOST_ROUNDS = 40;
    private static final int HARM_OF = 12;
    private static final int ODDS_HOURS = 10;

    // Where a PAIN is: a PERSON's number, or one of these (a PORTER's number is added to the first).
    private static final int AT_PORTER = 10;
    private static final int AT_STREET = 20;
    private static final int AT_OVER = 30;
    private static final int NOBODY = 5;

    private static final int KIND_SORT = 0;
    private static final int KIND_PERSON = 1;
    private static final int KIND_PORTER = 2;
    private static final int KIND_PAIN = 3;

    private static final int NO_TOKEN_FAULT = 1;
    private static final int NUMBER_FAULT = 2;
    private static final int NAME_FAULT = 3;
    private static final int MANY_FAULT = 4;

    // Every word that no NAME may be, each with a blank behind it; the constants below are their places here.
    private static final String KEYWORDS = "sort fixed talks person porter bars pain harm fetches drops hands home hour or and not carried lost over of with is weight left number ";
    private static final int KEYWORD_COUNT = 25;
    private static final int SORT = 0;
    private static final int FIXED = 1;
    private static final int TALKS = 2;
    private static final int PERSON = 3;
    private static final int PORTER = 4;
    private static final int BARS = 5;
    private static final int PAIN = 6;
    private static final int HARM = 7;
    private static final int FETCHES = 8;
    private static final int DROPS = 9;
    private static final int HANDS = 10;
    private static final int HOME = 11;
    private static final int HOUR = 12;
    private static final int OR = 13;
    private static final int AND = 14;
    private static final int NOT = 15;
    private static final int CARRIED = 16;
    private static final int LOST = 17;
    private static final int OVER = 18;
    private static final int OF = 19;
    private static final int WITH = 20;
    private static final int IS = 21;
    private static final int WEIGHT = 22;
    private static final int LEFT = 23;

    private final Reader reader = new Reader();
    private int bytes;
    private Town here = new Town();
    private Town spareTown = new Town();
    private final TownReader townReader = new TownReader();
    private final State state = new State();
    private final State asIf = new State();
    private Sentence saying = new Sentence();
    private Sentence spareSaying = new Sentence();
    private final Log judged = new Log();
    private final int[] judgement = {NONE, NONE, NONE, NONE};
    private final Past past = new Past();
    private final Kept[] kept = new Kept[IMAGES];
    private final Loads loads = new Loads();
    private final int[] byFree = new int[MOST_PAINS];
    private final int[] byFewest = new int[MOST_PAINS];
    private final int[] feesAtRest = new int[MOST_PORTERS];
    private final Limps limping = new Limps();
    private final Draws draws = new Draws();

    public PainPorters() {
        for (int k = 0; k < IMAGES; k++) {
            kept[k] = new Kept();
        }
        for (int p = 0; p < MOST_PAINS; p++) {
            byFree[p] = NONE;
            byFewest[p] = NONE;
        }
        for (int r = 0; r < MOST_PORTERS; r++) {
            feesAtRest[r] = NONE;
        }
    }

    public int feed(int a, int b, int c, int d, int e) {
        if (bytes + 20 > TAPE_BYTES) {
            return NONE;
        }
        putNumber(a);
        putNumber(b);
        putNumber(c);
        putNumber(d);
        putNumber(e);
        return bytes;
    }

    private void putNumber(int number) {
        for (int shift = 24; shift >= 0 && bytes < TAPE_BYTES; shift -= 8) {
            reader.tape[bytes] = (byte) (number >>> shift);
            bytes++;
        }
    }

    public boolean end(int n) {
        if (n < 0 || n > bytes) {
            return false;
        }
        bytes = n;
        return true;
    }

    /** The reader at the beginning of the tape, which is empty from then on. */
    private void takeTape(int mostBytes) {
        reader.begin(bytes, mostBytes);
        bytes = 0;
    }

    public int town() {
        takeTape(TOWN_BYTES);
        int lines = townReader.read(reader, spareTown);
        if (lines < 0) {
            return -1 - reader.faultPlace;
        }
        Town before = here;
        here = spareTown;
        spareTown = before;
        state.begin(here);
        saying.forget();
        past.forget();
        return lines;
    }

    public int fault() {
        return reader.fault;
    }

    public int pain(int p, int what) throws NoSuchElementException {
        if (!isPain(p) || what < 0 || what > 6) {
            throw new NoSuchElementException();
        }
        switch (what) {
            case 0: return here.owner[p];
            case 1: return here.sortOf[p];
            case 2: return here.weight[p];
            case 3: return state.left[p];
            case 4: return state.where[p];
            case 5: return state.drops[p];
            default: return state.paidFor[p];
        }
    }

    public int person(int m, int what) {
        if (!isPerson(m)) {
            return NONE;
        }
        switch (what) {
            case 0: return state.coin[m];
            case 1: return state.painsOf(here, m);
            case 2: return state.painsAt(here, m);
            case 3: return state.weightAt(here, m);
            case 4: return state.paid[m];
            default: return NONE;
        }
    }

    public int porter(int r, int what) throws NoSuchElementException {
        if (!isPorter(r) || what < 0 || what > 6) {
            throw new NoSuchElementException();
        }
        switch (what) {
            case 0: return here.strength[r];
            case 1: return here.fees[r];
            case 2: return state.painsAt(here, AT_PORTER + r);
            case 3: return state.heaveOf(here, r, state.painsAt(here, AT_PORTER + r));
            case 4: return state.earned[r];
            case 5: return state.learntBy(here, r);
            default: return here.bars[r];
        }
    }

    public int sort(int s, int what) {
        if (s < 0 || s >= here.sorts) {
            return NONE;
        }
        switch (what) {
            case 0: return here.fixed >>> s & 1;
            case 1: return here.talks[s];
            default: return NONE;
        }
    }

    public int now(int what) {
        switch (what) {
            case 0: return state.hour;
            case 1: return state.painless(here);
            case 2: return state.painsAt(here, AT_STREET);
            case 3: return state.painsAt(here, AT_OVER);
            case 4: return sum(state.coin, here.persons);
            case 5: return sum(state.earned, here.porters);
            case 6: return state.carriedNow(here);
            default: return NONE;
        }
    }

    private static int sum(int[] row, int count) {
        int all = 0;
        for (int i = 0; i < count && i < row.length; i++) {
            all += row[i];
        }
        return all;
    }

    public int fetch(int r, int p) {
        if (!isPorter(r) || !isPain(p)) {
            return NONE;
        }
        int why = state.whyNotFetch(here, r, p);
        if (why == 0) {
            past.keep(state);
            state.give(p, AT_PORTER + r);
        }
        return why;
    }

    public int hand(int r, int p, int o) {
        if (!isPorter(r) || !isPain(p) || !isPorter(o) || r == o) {
            return NONE;
        }
        int why = state.whyNotHand(here, r, p, o);
        if (why == 0) {
            past.keep(state);
            state.give(p, AT_PORTER + o);
        }
        return why;
    }

    public int drop(int r, int p) {
        if (!isPorter(r) || !isPain(p)) {
            return NONE;
        }
        int why = state.whyNotDrop(r, p);
        if (why == 0) {
            past.keep(state);
            state.letFall(p);
        }
        return why;
    }

    public int home(int p) {
        if (!isPain(p)) {
            return NONE;
        }
        int why = state.whyNotHome(here, p);
        if (why == 0) {
            past.keep(state);
            state.give(p, here.owner[p]);
        }
        return why;
    }

    public int hours(int n) {
        if (n < 1 || n > MOST_HOURS) {
            return NONE;
        }
        if (state.hour < END_OF_HOURS) {
            past.keep(state);
        }
        return state.passHours(here, n);
    }

    public int undo() {
        return past.bringBack(state);
    }

    public int can(int r, int p) {
        if (!isPorter(r) || !isPain(p) || state.where[p] == AT_OVER) {
            return NONE;
        }
        return state.whyNotCarry(here, r, p);
    }

    public int free(int set, int n) {
        if (!isAmong(set, here.persons) || n < 1 || n > 200) {
            return NONE;
        }
        int cost = loads.freeing(here, state, set, n);
        if (cost != NONE) {
            loads.tell(byFree);
        }
        return cost;
    }

    public int by(int p) {
        return isPain(p) ? byFree[p] : NONE;
    }

    public int fewest(int set) {
        if (!isAmong(set, here.pains) || (set & state.painsAt(here, AT_OVER)) != 0) {
            return NONE;
        }
        int used = loads.fewestFor(here, state, set);
        if (used != NONE) {
            loads.tell(byFewest);
        }
        return used;
    }

    public int load(int p) {
        return isPain(p) ? byFewest[p] : NONE;
    }

    public int limps() {
        int told = bytes;
        bytes = 0;
        if (told < 1 || told != here.persons) {
            return NONE;
        }
        return limping.waysBy(here, state, reader.tape);
    }

    public int surely(int p) {
        return isPain(p) ? limping.sureHolder(p) : NONE;
    }

    public int ask() {
        return limping.bestQuestion();
    }

    public int share(int w, int r) {
        if (w < 0 || w > 999 || !isPorter(r)) {
            return NONE;
        }
        int all = sum(here.strength, here.porters);
        if (all < 1) {
            return NONE;
        }
        int spare = w;
        int ahead = 0;
        int rest = w * here.strength[r] % all;
        for (int o = 0; o < here.porters; o++) {
            spare -= w * here.strength[o] / all;
            int other = w * here.strength[o] % all;
            if (other > rest || other == rest && o < r) {
                ahead++;
            }
        }
        return w * here.strength[r] / all + (ahead < spare ? 1 : 0);
    }

    public int rest() {
        return loads.settleFees(here, state, feesAtRest);
    }

    public int fee(int r) {
        return isPorter(r) ? feesAtRest[r] : NONE;
    }

    public int unharmed(int n, int what) throws NoSuchElementException {
        if (n < 0 || n > 6 || what < 0 || what > 1) {
            throw new NoSuchElementException();
        }
        int above = HARM_OF - here.harm;
        int common = HARM_OF;
        while (common > 1 && (above % common != 0 || HARM_OF % common != 0)) {
            common--;
        }
        int base = (what == 0 ? above : HARM_OF) / common;
        int power = 1;
        for (int i = 0; i < n; i++) {
            power *= base;
        }
        return power;
    }

    public int ease(int m) {
        if (!isPerson(m)) {
            return NONE;
        }
        asIf.copyFrom(state);
        for (int h = state.hour; h < END_OF_HOURS; h++) {
            if (asIf.painsAt(here, m) == 0) {
                return h;
            }
            asIf.passHours(here, 1);
        }
        return NONE;
    }

    public int later(int m, int h) {
        if (!isPerson(m) || h < state.hour || h > END_OF_HOURS) {
            return NONE;
        }
        asIf.copyFrom(state);
        asIf.passHours(here, h - state.hour);
        return asIf.weightAt(here, m);
    }

    public int lasts(int p) {
        if (!isPain(p) || !state.isCarried(p)) {
            return NONE;
        }
        asIf.copyFrom(state);
        for (int h = state.hour; h < END_OF_HOURS && asIf.isCarried(p); h++) {
            asIf.passHours(here, 1);
        }
        return asIf.paidFor[p] - state.paidFor[p];
    }

    public int cheapest(int p) {
        if (!isPain(p) || state.where[p] == AT_OVER) {
            return NONE;
        }
        int best = NONE;
        for (int r = 0; r < here.porters; r++) {
            if (state.where[p] != AT_PORTER + r && state.whyNotCarry(here, r, p) == 0
                    && (best == NONE || here.fees[r] < here.fees[best])) {
                best = r;
            }
        }
        return best;
    }

    public int hopeless() {
        int set = 0;
        for (int p = 0; p < here.pains; p++) {
            if (state.where[p] != AT_OVER && !isCarriable(p)) {
                set |= 1 << p;
            }
        }
        return set;
    }

    private boolean isCarriable(int p) {
        for (int r = 0; r < here.porters; r++) {
            if (state.whyNotCarry(here, r, p) == 0) {
                return true;
            }
        }
        return false;
    }

    public int drawn(int n, int seed) {
        if (n < 1 || n > MOST_HOURS || here.porters < 1 || here.pains < 1) {
            return NONE;
        }
        if (state.hour < END_OF_HOURS) {
            past.keep(state);
        }
        return draws.live(here, state, n, seed);
    }

    public int odds(int m, int n, int seed) {
        if (!isPerson(m) || n < 1 || n > 30 || here.porters < 1 || here.pains < 1) {
            return NONE;
        }
        int free = 0;
        for (int i = 0; i < n; i++) {
            asIf.copyFrom(state);
            draws.live(here, asIf, ODDS_HOURS, seed + i);
            if (asIf.painsAt(here, m) == 0) {
                free++;
            }
        }
        return free;
    }

    public int log(int lives) {
        if (lives != 0 && lives != 1) {
            return -1000;
        }
        takeTape(LOG_BYTES);
        if (!judged.read(reader, here)) {
            return -2 - reader.faultPlace;
        }
        State lived = state;
        if (lives == 1) {
            past.keep(state);
        } else {
            asIf.copyFrom(state);
            lived = asIf;
        }
        int good = judged.goodLines(here, lived);
        judgement[0] = judged.why;
        judgement[1] = good;
        judgement[2] = lived.hour;
        judgement[3] = lived.painless(here);
        return judged.why == 0 ? NONE : good;
    }

    public int logged(int what) {
        return what >= 0 && what < judgement.length ? judgement[what] : NONE;
    }

    public int sentence() {
        takeTape(SENTENCE_BYTES);
        if (!spareSaying.read(reader, here)) {
            return -1 - reader.faultPlace;
        }
        Sentence before = saying;
        saying = spareSaying;
        spareSaying = before;
        return saying.ones;
    }

    public int said(int k) {
        if (!saying.told) {
            return NONE;
        }
        int set = saying.saidOf(here, state);
        if (k == NONE) {
            return Integer.bitCount(set);
        }
        int ahead = 0;
        for (int p = 0; p < here.pains; p++) {
            if ((set >>> p & 1) != 0) {
                if (ahead == k) {
                    return p;
                }
                ahead++;
            }
        }
        return NONE;
    }

    public boolean image(int k) {
        if (k < 0 || k >= IMAGES) {
            return false;
        }
        kept[k].town.copyFrom(here);
        kept[k].state.copyFrom(state);
        kept[k].saying.copyFrom(saying);
        kept[k].full = true;
        return true;
    }

    public boolean restore(int k) {
        if (k < 0 || k >= IMAGES || !kept[k].full) {
            return false;
        }
        here.copyFrom(kept[k].town);
        state.copyFrom(kept[k].state);
        saying.copyFrom(kept[k].saying);
        past.forget();
        return true;
    }

    public int count(int what) {
        switch (what) {
            case 0: return here.sorts;
            case 1: return here.persons;
            case 2: return here.porters;
            case 3: return here.pains;
            case 4: return here.harm;
            case 5: return bytes;
            default: return NONE;
        }
    }

    private boolean isPain(int p) {
        return p >= 0 && p < here.pains;
    }

    private boolean isPerson(int m) {
        return m >= 0 && m < here.persons;
    }

    private boolean isPorter(int r) {
        return r >= 0 && r < here.porters;
    }

    /** Whether the bits of a set are all below a count. */
    private static boolean isAmong(int set, int count) {
        return set >= 0 && set < 1 << count;
    }

    /** What a TOWN's text tells; it does not change as long as the TOWN stands. */
    private static final class Town {
        int sorts;
        int persons;
        int porters;
        int pains;
        int harm = 1;
        int fixed;
        final int[] talks = new int[MOST_SORTS];
        final int[] coins = new int[MOST_PERSONS];
        final int[] strength = new int[MOST_PORTERS];
        final int[] fees = new int[MOST_PORTERS];
        final int[] bars = new int[MOST_PORTERS];
        final int[] owner = new int[MOST_PAINS];
        final int[] sortOf = new int[MOST_PAINS];
        final int[] weight = new int[MOST_PAINS];
        final int[] lasting = new int[MOST_PAINS];
        // Of each PAIN, as bits, the PAINS whose SORTS talk to its own.
        final int[] clash = new int[MOST_PAINS];
        private final long[] names = new long[MOST_NAMES];
        private final int[] named = new int[MOST_NAMES];
        private int nameCount;

        void clear() {
            sorts = 0;
            persons = 0;
            porters = 0;
            pains = 0;
            harm = 1;
            fixed = 0;
            nameCount = 0;
            for (int s = 0; s < MOST_SORTS; s++) {
                talks[s] = 0;
            }
            for (int r = 0; r < MOST_PORTERS; r++) {
                bars[r] = 0;
            }
        }

        void copyFrom(Town o) {
            sorts = o.sorts;
            persons = o.persons;
            porters = o.porters;
            pains = o.pains;
            harm = o.harm;
            fixed = o.fixed;
            nameCount = o.nameCount;
            System.arraycopy(o.talks, 0, talks, 0, MOST_SORTS);
            System.arraycopy(o.coins, 0, coins, 0, MOST_PERSONS);
            System.arraycopy(o.strength, 0, strength, 0, MOST_PORTERS);
            System.arraycopy(o.fees, 0, fees, 0, MOST_PORTERS);
            System.arraycopy(o.bars, 0, bars, 0, MOST_PORTERS);
            System.arraycopy(o.owner, 0, owner, 0, MOST_PAINS);
            System.arraycopy(o.sortOf, 0, sortOf, 0, MOST_PAINS);
            System.arraycopy(o.weight, 0, weight, 0, MOST_PAINS);
            System.arraycopy(o.lasting, 0, lasting, 0, MOST_PAINS);
            System.arraycopy(o.clash, 0, clash, 0, MOST_PAINS);
            System.arraycopy(o.names, 0, names, 0, MOST_NAMES);
            System.arraycopy(o.named, 0, named, 0, MOST_NAMES);
        }

        void name(long word, int kind, int number) {
            if (nameCount < MOST_NAMES) {
                names[nameCount] = word;
                named[nameCount] = kind * 8 + number;
                nameCount++;
            }
        }

        /** The kind of a told NAME times 8 and its number; NONE if it is not told. */
        int find(long word) {
            for (int i = 0; i < nameCount; i++) {
                if (names[i] == word) {
                    return named[i];
                }
            }
            return NONE;
        }

        /** 'talks' may be told behind the PAINS, so this is known at the text's end alone. */
        void findClashes() {
            for (int p = 0; p < pains; p++) {
                clash[p] = 0;
                for (int q = 0; q < pains; q++) {
                    if ((talks[sortOf[p]] >>> sortOf[q] & 1) != 0) {
                        clash[p] |= 1 << q;
                    }
                }
            }
        }

        /** Whether a PAIN's SORT is fixed, or barred to a PORTER. */
        boolean isForbidden(int r, int p) {
            return ((fixed | bars[r]) >>> sortOf[p] & 1) != 0;
        }
    }

    /** All that is so at an HOUR, and the rules by which it changes. */
    private static final class State {
        int hour;
        final int[] coin = new int[MOST_PERSONS];
        final int[] paid = new int[MOST_PERSONS];
        final int[] earned = new int[MOST_PORTERS];
        // HOURS for which a PORTER has carried a SORT, PORTER by PORTER.
        private final int[] practice = new int[MOST_PORTERS * MOST_SORTS];
        final int[] left = new int[MOST_PAINS];
        final int[] where = new int[MOST_PAINS];
        final int[] drops = new int[MOST_PAINS];
        final int[] paidFor = new int[MOST_PAINS];

        void begin(Town t) {
            hour = 0;
            for (int m = 0; m < MOST_PERSONS; m++) {
                coin[m] = t.coins[m];
                paid[m] = 0;
            }
            for (int r = 0; r < MOST_PORTERS; r++) {
                earned[r] = 0;
            }
            for (int i = 0; i < practice.length; i++) {
                practice[i] = 0;
            }
            for (int p = 0; p < MOST_PAINS; p++) {
                left[p] = t.lasting[p];
                where[p] = t.owner[p];
                drops[p] = 0;
                paidFor[p] = 0;
            }
        }

        void copyFrom(State o) {
            hour = o.hour;
            System.arraycopy(o.coin, 0, coin, 0, MOST_PERSONS);
            System.arraycopy(o.paid, 0, paid, 0, MOST_PERSONS);
            System.arraycopy(o.earned, 0, earned, 0, MOST_PORTERS);
            System.arraycopy(o.practice, 0, practice, 0, MOST_PORTERS * MOST_SORTS);
            System.arraycopy(o.left, 0, left, 0, MOST_PAINS);
            System.arraycopy(o.where, 0, where, 0, MOST_PAINS);
            System.arraycopy(o.drops, 0, drops, 0, MOST_PAINS);
            System.arraycopy(o.paidFor, 0, paidFor, 0, MOST_PAINS);
        }

        boolean isCarried(int p) {
            return where[p] >= AT_PORTER && where[p] < AT_STREET;
        }

        int painsAt(Town t, int place) {
            int set = 0;
            for (int p = 0; p < t.pains; p++) {
                if (where[p] == place) {
                    set |= 1 << p;
                }
            }
            return set;
        }

        int painsOf(Town t, int m) {
            int set = 0;
            for (int p = 0; p < t.pains; p++) {
                if (t.owner[p] == m && where[p] != AT_OVER) {
                    set |= 1 << p;
                }
            }
            return set;
        }

        int carriedNow(Town t) {
            int set = 0;
            for (int p = 0; p < t.pains; p++) {
                if (isCarried(p)) {
                    set |= 1 << p;
                }
            }
            return set;
        }

        int weightAt(Town t, int place) {
            int all = 0;
            for (int p = 0; p < t.pains; p++) {
                if (where[p] == place) {
                    all += t.weight[p];
                }
            }
            return all;
        }

        int painless(Town t) {
            int set = 0;
            for (int m = 0; m < t.persons; m++) {
                if (painsAt(t, m) == 0) {
                    set |= 1 << m;
                }
            }
            return set;
        }

        int learntBy(Town t, int r) {
            int set = 0;
            for (int s = 0; s < t.sorts; s++) {
                if (practice[r * MOST_SORTS + s] >= LEARNT_AT) {
                    set |= 1 << s;
                }
            }
            return set;
        }

        /** What a PORTER HEAVES of a set of PAINS. */
        int heaveOf(Town t, int r, int set) {
            int all = 0;
            for (int p = 0; p < t.pains; p++) {
                if ((set >>> p & 1) != 0) {
                    boolean learnt = practice[r * MOST_SORTS + t.sortOf[p]] >= LEARNT_AT;
                    all += learnt && t.weight[p] > 1 ? t.weight[p] - 1 : t.weight[p];
                }
            }
            return all;
        }

        /** Why a PORTER can't carry a PAIN beside the others that he has: 0, or 2 to 4. */
        int whyNotCarry(Town t, int r, int p) {
            if (t.isForbidden(r, p)) {
                return 2;
            }
            int has = painsAt(t, AT_PORTER + r);
            if ((has & t.clash[p]) != 0) {
                return 3;
            }
            return heaveOf(t, r, has | 1 << p) > t.strength[r] ? 4 : 0;
        }

        int whyNotFetch(Town t, int r, int p) {
            if (where[p] >= AT_PORTER) {
                return 1;
            }
            int why = whyNotCarry(t, r, p);
            if (why != 0) {
                return why;
            }
            return coin[t.owner[p]] < t.fees[r] ? 5 : 0;
        }

        int whyNotHand(Town t, int r, int p, int o) {
            return where[p] != AT_PORTER + r ? 1 : whyNotCarry(t, o, p);
        }

        int whyNotDrop(int r, int p) {
            return where[p] != AT_PORTER + r ? 1 : 0;
        }

        int whyNotHome(Town t, int p) {
            return where[p] == AT_OVER || where[p] == t.owner[p] ? 1 : 0;
        }

        void give(int p, int place) {
            where[p] = place;
        }

        void letFall(int p) {
            where[p] = AT_STREET;
            drops[p]++;
        }

        /** As many HOURS as are left, n at most, go by: how many did. */
        int passHours(Town t, int n) {
            int gone = Math.min(n, END_OF_HOURS - hour);
            int last = hour + gone;
            boolean pained = true;
            while (hour < last && pained) {
                payPorters(t);
                practise(t);
                pained = wearOff(t);
                fallOnSomebody(t);
                hour++;
            }
            // With all PAINS over an HOUR changes nothing but its own number.
            hour = last;
            return gone;
        }

        private void payPorters(Town t) {
            for (int p = 0; p < t.pains; p++) {
                if (isCarried(p)) {
                    int r = where[p] - AT_PORTER;
                    int m = t.owner[p];
                    if (coin[m] >= t.fees[r]) {
                        coin[m] -= t.fees[r];
                        paid[m] += t.fees[r];
                        earned[r] += t.fees[r];
                        paidFor[p]++;
                    } else {
                        where[p] = m;
                    }
                }
            }
        }

        private void practise(Town t) {
            for (int p = 0; p < t.pains; p++) {
                if (isCarried(p) && isFirstOfSort(t, p)) {
                    practice[(where[p] - AT_PORTER) * MOST_SORTS + t.sortOf[p]]++;
                }
            }
        }

        /** Two PAINS of one SORT with one PORTER are one HOUR of it, not two. */
        private boolean isFirstOfSort(Town t, int p) {
            for (int q = 0; q < p; q++) {
                if (where[q] == where[p] && t.sortOf[q] == t.sortOf[p]) {
                    return false;
                }
            }
            return true;
        }

        /** Whether some PAIN is not over then. */
        private boolean wearOff(Town t) {
            boolean some = false;
            for (int p = 0; p < t.pains; p++) {
                if (where[p] != AT_OVER) {
                    left[p]--;
                    if (left[p] <= 0) {
                        where[p] = AT_OVER;
                    } else {
                        some = true;
                    }
                }
            }
            return some;
        }

        private void fallOnSomebody(Town t) {
            if (t.persons < 1) {
                return;
            }
            for (int p = 0; p < t.pains; p++) {
                if (where[p] == AT_STREET) {
                    where[p] = hour % t.persons;
                }
            }
        }
    }

    /** What was so ahead of the latest acts, 8 at most, in a ring. */
    private static final class Past {
        private final State[] before = new State[MOST_UNDONE];
        private int next;
        private int size;

        Past() {
            for (int i = 0; i < MOST_UNDONE; i++) {
                before[i] = new State();
            }
        }

        void forget() {
            size = 0;
        }

        void keep(State s) {
            before[next].copyFrom(s);
            next = (next + 1) % MOST_UNDONE;
            size = Math.min(size + 1, MOST_UNDONE);
        }

        /** How many more can be brought back; NONE if there was none. */
        int bringBack(State s) {
            if (size == 0) {
                return NONE;
            }
            next = (next + MOST_UNDONE - 1) % MOST_UNDONE;
            s.copyFrom(before[next]);
            size--;
            return size;
        }
    }

    /** An image. */
    private static final class Kept {
        final Town town = new Town();
        final State state = new State();
        final Sentence saying = new Sentence();
        boolean full;
    }

    /** The TOKENS of a text one by one, and its first FAULT. */
    private static final class Reader {
        // The kind of a TOKEN that is a sign is the sign itself.
        static final int END = 0;
        static final int BAD = 1;
        static final int WORD = 2;
        static final int NUMBER = 3;

        final byte[] tape = new byte[TAPE_BYTES];
        private final long[] keywords = new long[KEYWORD_COUNT];
        private int length;
        private int most;
        private int next;
        int kind;
        int place;
        // What a NUMBER says, or the number of what a NAME is told for.
        int number;
        int kindOfName;
        long word;
        // Which of the KEYWORDS the TOKEN is; NONE if it is none.
        int keyword;
        int fault;
        int faultPlace;

        Reader() {
            int i = 0;
            for (int c = 0; c < KEYWORDS.length() && i < KEYWORD_COUNT; c++) {
                if (KEYWORDS.charAt(c) == ' ') {
                    i++;
                } else {
                    keywords[i] = joined(keywords[i], KEYWORDS.charAt(c));
                }
            }
        }

        /** A WORD of 7 letters fits into a long with 5 bits a letter, and none is like another. */
        private static long joined(long word, int letter) {
            return word * 32 + (letter - 'a' + 1);
        }

        void begin(int bytes, int mostBytes) {
            length = Math.min(bytes, TAPE_BYTES);
            most = mostBytes;
            next = 0;
            fault = 0;
            faultPlace = 0;
        }

        boolean fail(int kindOfFault) {
            fault = kindOfFault;
            faultPlace = place;
            return false;
        }

        /** Goes to the next TOKEN; a text that is too long ends in what is no TOKEN. */
        void advance() {
            int limit = Math.min(length, most);
            while (next < limit && (tape[next] == ' ' || tape[next] == '\n')) {
                next++;
            }
            keyword = NONE;
            if (next >= limit) {
                place = limit;
                kind = length > most ? BAD : END;
                return;
            }
            place = next;
            int sign = tape[next];
            if (sign >= 'a' && sign <= 'z' || sign >= '0' && sign <= '9') {
                readRun();
                return;
            }
            boolean known = sign == ';' || sign == '<' || sign == '=' || sign == '>' || sign == '(' || sign == ')';
            kind = known ? sign : BAD;
            next++;
        }

        private void readRun() {
            int letters = 0;
            int digits = 0;
            word = 0;
            number = 0;
            for (; next < length; next++) {
                int sign = tape[next];
                if (sign >= 'a' && sign <= 'z') {
                    letters++;
                    word = joined(word, sign);
                } else if (sign >= '0' && sign <= '9') {
                    digits++;
                    number = number * 10 + sign - '0';
                } else {
                    break;
                }
            }
            if (digits == 0 && letters <= 7) {
                kind = WORD;
                findKeyword();
            } else {
                kind = letters == 0 && digits <= 3 ? NUMBER : BAD;
            }
        }

        private void findKeyword() {
            for (int i = 0; i < KEYWORD_COUNT; i++) {
                if (keywords[i] == word) {
                    keyword = i;
                    return;
                }
            }
        }

        boolean isName() {
            return kind == WORD && keyword == NONE;
        }

        /** The next TOKEN is a told NAME of one of these kinds (bits): its number and its kind are known then. */
        boolean readName(Town t, int kinds) {
            advance();
            if (!isName()) {
                return fail(NO_TOKEN_FAULT);
            }
            int found = t.find(word);
            if (found == NONE || (kinds >>> found / 8 & 1) == 0) {
                return fail(NAME_FAULT);
            }
            number = found % 8;
            kindOfName = found / 8;
            return true;
        }

        /** The next TOKEN is a NUMBER between these two. */
        boolean readNumber(int least, int greatest) {
            advance();
            if (kind != NUMBER) {
                return fail(NO_TOKEN_FAULT);
            }
            return number >= least && number <= greatest || fail(NUMBER_FAULT);
        }

        boolean endsLine() {
            return kind == ';' || fail(NO_TOKEN_FAULT);
        }

        boolean nextEndsLine() {
            advance();
            return endsLine();
        }
    }

    /** Reads the text of a TOWN. */
    private static final class TownReader {
        private int talksTold;
        private int barsTold;
        private boolean harmTold;

        /** How many LINES there are; NONE: a FAULT. */
        int read(Reader in, Town out) {
            out.clear();
            talksTold = 0;
            barsTold = 0;
            harmTold = false;
            for (int lines = 0; lines <= TOWN_BYTES; lines++) {
                in.advance();
                if (in.kind == Reader.END) {
                    out.findClashes();
                    return lines;
                }
                if (!readLine(in, out)) {
                    return NONE;
                }
            }
            in.fail(NO_TOKEN_FAULT);
            return NONE;
        }

        private boolean readLine(Reader in, Town out) {
            switch (in.keyword) {
                case SORT: return readSort(in, out);
                case TALKS: return readTalks(in, out);
                case PERSON: return readPerson(in, out);
                case PORTER: return readPorter(in, out);
                case BARS: return readBars(in, out);
                case PAIN: return readPain(in, out);
                case HARM: return readHarm(in, out);
                default: return in.fail(NO_TOKEN_FAULT);
            }
        }

        private boolean readNewName(Reader in, Town out, int kind, int number) {
            in.advance();
            if (!in.isName()) {
                return in.fail(NO_TOKEN_FAULT);
            }
            if (out.find(in.word) != NONE) {
                return in.fail(NAME_FAULT);
            }
            out.name(in.word, kind, number);
            return true;
        }

        private boolean readSort(Reader in, Town out) {
            int s = out.sorts;
            if (s >= MOST_SORTS) {
                return in.fail(MANY_FAULT);
            }
            if (!readNewName(in, out, KIND_SORT, s)) {
                return false;
            }
            out.sorts++;
            in.advance();
            if (in.keyword == FIXED) {
                out.fixed |= 1 << s;
                in.advance();
            }
            return in.endsLine();
        }

        private boolean readTalks(Reader in, Town out) {
            if (talksTold >= MOST_TALKS) {
                return in.fail(MANY_FAULT);
            }
            talksTold++;
            if (!in.readName(out, 1 << KIND_SORT)) {
                return false;
            }
            int one = in.number;
            if (!in.readName(out, 1 << KIND_SORT)) {
                return false;
            }
            int other = in.number;
            if (one == other || (out.talks[one] >>> other & 1) != 0) {
                return in.fail(NAME_FAULT);
            }
            out.talks[one] |= 1 << other;
            out.talks[other] |= 1 << one;
            return in.nextEndsLine();
        }

        private boolean readPerson(Reader in, Town out) {
            int m = out.persons;
            if (m >= MOST_PERSONS) {
                return in.fail(MANY_FAULT);
            }
            if (!readNewName(in, out, KIND_PERSON, m) || !in.readNumber(0, 999)) {
                return false;
            }
            out.coins[m] = in.number;
            out.persons++;
            return in.nextEndsLine();
        }

        private boolean readPorter(Reader in, Town out) {
            int r = out.porters;
            if (r >= MOST_PORTERS) {
                return in.fail(MANY_FAULT);
            }
            if (!readNewName(in, out, KIND_PORTER, r) || !in.readNumber(1, 40)) {
                return false;
            }
            out.strength[r] = in.number;
            if (!in.readNumber(0, MOST_FEE)) {
                return false;
            }
            out.fees[r] = in.number;
            out.porters++;
            return in.nextEndsLine();
        }

        private boolean readBars(Reader in, Town out) {
            if (barsTold >= MOST_BARS) {
                return in.fail(MANY_FAULT);
            }
            barsTold++;
            if (!in.readName(out, 1 << KIND_PORTER)) {
                return false;
            }
            int r = in.number;
            if (!in.readName(out, 1 << KIND_SORT)) {
                return false;
            }
            int s = in.number;
            if ((out.bars[r] >>> s & 1) != 0) {
                return in.fail(NAME_FAULT);
            }
            out.bars[r] |= 1 << s;
            return in.nextEndsLine();
        }

        private boolean readPain(Reader in, Town out) {
            int p = out.pains;
            if (p >= MOST_PAINS) {
                return in.fail(MANY_FAULT);
            }
            if (!readNewName(in, out, KIND_PAIN, p) || !in.readName(out, 1 << KIND_PERSON)) {
                return false;
            }
            out.owner[p] = in.number;
            if (!in.readName(out, 1 << KIND_SORT)) {
                return false;
            }
            out.sortOf[p] = in.number;
            if (!in.readNumber(1, 9)) {
                return false;
            }
            out.weight[p] = in.number;
            if (!in.readNumber(1, 200)) {
                return false;
            }
            out.lasting[p] = in.number;
            out.pains++;
            return in.nextEndsLine();
        }

        private boolean readHarm(Reader in, Town out) {
            if (harmTold) {
                return in.fail(NAME_FAULT);
            }
            harmTold = true;
            if (!in.readNumber(0, HARM_OF)) {
                return false;
            }
            out.harm = in.number;
            return in.nextEndsLine();
        }
    }

    /** A LOG: read whole first, for a FAULT at its end leaves all of it unjudged. */
    private static final class Log {
        private static final int TO_HIMSELF = 19;
        private static final int TOO_FEW_HOURS = 41;

        private final int[] acts = new int[MOST_LOG_LINES];
        private final int[] doers = new int[MOST_LOG_LINES];
        private final int[] pains = new int[MOST_LOG_LINES];
        // The other PORTER, or how many HOURS.
        private final int[] extras = new int[MOST_LOG_LINES];
        private int lines;
        int why;

        boolean read(Reader in, Town t) {
            lines = 0;
            for (int i = 0; i <= LOG_BYTES; i++) {
                in.advance();
                if (in.kind == Reader.END) {
                    return true;
                }
                if (!readLine(in, t)) {
                    return false;
                }
                lines++;
            }
            return in.fail(NO_TOKEN_FAULT);
        }

        private boolean readLine(Reader in, Town t) {
            boolean hour = in.keyword == HOUR;
            if (!hour && !in.isName()) {
                return in.fail(NO_TOKEN_FAULT);
            }
            int first = hour ? NONE : t.find(in.word);
            boolean porter = first != NONE && first / 8 == KIND_PORTER;
            boolean pain = first != NONE && first / 8 == KIND_PAIN;
            if (!hour && !porter && !pain) {
                return in.fail(NAME_FAULT);
            }
            if (lines >= MOST_LOG_LINES) {
                return in.fail(MANY_FAULT);
            }
            if (hour) {
                return readHour(in);
            }
            return pain ? readHome(in, first % 8) : readDeed(in, t, first % 8);
        }

        private boolean readHour(Reader in) {
            if (!in.readNumber(1, MOST_HOURS)) {
                return false;
            }
            acts[lines] = HOUR;
            extras[lines] = in.number;
            return in.nextEndsLine();
        }

        private boolean readHome(Reader in, int p) {
            in.advance();
            if (in.keyword != HOME) {
                return in.fail(NO_TOKEN_FAULT);
            }
            acts[lines] = HOME;
            pains[lines] = p;
            return in.nextEndsLine();
        }

        private boolean readDeed(Reader in, Town t, int r) {
            in.advance();
            int act = in.keyword;
            if (act != FETCHES && act != DROPS && act != HANDS) {
                return in.fail(NO_TOKEN_FAULT);
            }
            if (!in.readName(t, 1 << KIND_PAIN)) {
                return false;
            }
            acts[lines] = act;
            doers[lines] = r;
            pains[lines] = in.number;
            if (act == HANDS) {
                if (!in.readName(t, 1 << KIND_PORTER)) {
                    return false;
                }
                extras[lines] = in.number;
            }
            return in.nextEndsLine();
        }

        /** Lives it as far as it is not WRONG: how many LINES are not, with why the next one is. */
        int goodLines(Town t, State s) {
            why = 0;
            for (int i = 0; i < lines && i < MOST_LOG_LINES; i++) {
                why = liveLine(t, s, i);
                if (why != 0) {
                    return i;
                }
            }
            return lines;
        }

        private int liveLine(Town t, State s, int i) {
            int p = pains[i];
            int wrong;
            switch (acts[i]) {
                case FETCHES:
                    wrong = s.whyNotFetch(t, doers[i], p);
                    if (wrong == 0) {
                        s.give(p, AT_PORTER + doers[i]);
                    }
                    return wrong;
                case HANDS:
                    return liveHanding(t, s, i);
                case DROPS:
                    wrong = s.whyNotDrop(doers[i], p);
                    if (wrong == 0) {
                        s.letFall(p);
                    }
                    return wrong == 0 ? 0 : 20 + wrong;
                case HOME:
                    wrong = s.whyNotHome(t, p);
                    if (wrong == 0) {
                        s.give(p, t.owner[p]);
                    }
                    return wrong == 0 ? 0 : 30 + wrong;
                default:
                    if (END_OF_HOURS - s.hour < extras[i]) {
                        return TOO_FEW_HOURS;
                    }
                    s.passHours(t, extras[i]);
                    return 0;
            }
        }

        /** To HAND is to another PORTER: to himself it is WRONG before anything else is asked, as hand() has it. */
        private int liveHanding(Town t, State s, int i) {
            if (doers[i] == extras[i]) {
                return TO_HIMSELF;
            }
            int wrong = s.whyNotHand(t, doers[i], pains[i], extras[i]);
            if (wrong == 0) {
                s.give(pains[i], AT_PORTER + extras[i]);
            }
            return wrong == 0 ? 0 : 10 + wrong;
        }
    }

    /** A SENTENCE, as steps of which each 'not', 'and', 'or' stands behind what it is said of. */
    private static final class Sentence {
        private static final int MOST_STEPS = MOST_ONES * 2;

        boolean told;
        int ones;
        private int steps;
        private final int[] ops = new int[MOST_STEPS];
        private final int[] signs = new int[MOST_STEPS];
        private final int[] args = new int[MOST_STEPS];
        // While it is read: each 'not', 'and', 'or' and open bracket that is not at its end.
        private final int[] open = new int[MOST_STEPS];
        private int openCount;
        private int brackets;
        private int within;
        private boolean wantsOne;
        private final int[] sets = new int[MOST_ONES];

        void forget() {
            told = false;
            ones = 0;
            steps = 0;
        }

        void copyFrom(Sentence o) {
            told = o.told;
            ones = o.ones;
            steps = o.steps;
            System.arraycopy(o.ops, 0, ops, 0, MOST_STEPS);
            System.arraycopy(o.signs, 0, signs, 0, MOST_STEPS);
            System.arraycopy(o.args, 0, args, 0, MOST_STEPS);
        }

        boolean read(Reader in, Town t) {
            forget();
            openCount = 0;
            brackets = 0;
            within = 0;
            wantsOne = true;
            for (int i = 0; i <= SENTENCE_BYTES; i++) {
                in.advance();
                if (wantsOne) {
                    if (!readOne(in, t)) {
                        return false;
                    }
                } else if (in.kind == Reader.END && brackets == 0) {
                    closeJoins(OR);
                    told = true;
                    return true;
                } else if (!readBetween(in)) {
                    return false;
                }
            }
            return in.fail(NO_TOKEN_FAULT);
        }

        private boolean readOne(Reader in, Town t) {
            if (in.kind != '(' && in.keyword < NOT) {
                return in.fail(NO_TOKEN_FAULT);
            }
            if (ones >= MOST_ONES || within >= MOST_WITHIN) {
                return in.fail(MANY_FAULT);
            }
            ones++;
            if (in.kind == '(') {
                brackets++;
                within++;
                putOpen('(');
                return true;
            }
            if (in.keyword == NOT) {
                within++;
                putOpen(NOT);
                return true;
            }
            wantsOne = false;
            if (!readPlain(in, t)) {
                return false;
            }
            closeNots();
            return true;
        }

        private boolean readPlain(Reader in, Town t) {
            int op = in.keyword;
            switch (op) {
                case CARRIED:
                case LOST:
                case OVER:
                    return step(op, 0, 0);
                case OF:
                    return in.readName(t, 1 << KIND_PERSON) && step(op, 0, in.number);
                case WITH:
                    return in.readName(t, 1 << KIND_PERSON | 1 << KIND_PORTER)
                            && step(op, 0, in.kindOfName == KIND_PORTER ? AT_PORTER + in.number : in.number);
                case IS:
                    return in.readName(t, 1 << KIND_SORT) && step(op, 0, in.number);
                default:
                    in.advance();
                    int sign = in.kind;
                    if (sign != '<' && sign != '=' && sign != '>') {
                        return in.fail(NO_TOKEN_FAULT);
                    }
                    return in.readNumber(0, 999) && step(op, sign, in.number);
            }
        }

        /** What stands behind a ONE: 'and', 'or', a bracket's end. */
        private boolean readBetween(Reader in) {
            if (in.keyword == AND || in.keyword == OR) {
                closeJoins(in.keyword);
                putOpen(in.keyword);
                wantsOne = true;
                return true;
            }
            if (in.kind != ')' || brackets == 0) {
                return in.fail(NO_TOKEN_FAULT);
            }
            closeJoins(OR);
            openCount = Math.max(openCount - 1, 0);
            brackets--;
            within--;
            closeNots();
            return true;
        }

        private void putOpen(int what) {
            if (openCount < MOST_STEPS) {
                open[openCount] = what;
                openCount++;
            }
        }

        /** There is always room: 20 ONES are joined by 19 steps more at most. */
        private boolean step(int op, int sign, int arg) {
            if (steps >= MOST_STEPS) {
                return false;
            }
            ops[steps] = op;
            signs[steps] = sign;
            args[steps] = arg;
            steps++;
            return true;
        }

        private void closeNots() {
            while (openCount > 0 && open[openCount - 1] == NOT) {
                openCount--;
                within--;
                step(NOT, 0, 0);
            }
        }

        /** An 'and' ends at another one; at an 'or' and at the end, 'or' ends too. */
        private void closeJoins(int at) {
            while (openCount > 0 && (open[openCount - 1] == AND || at == OR && open[openCount - 1] == OR)) {
                openCount--;
                step(open[openCount], 0, 0);
            }
        }

        /** The PAINS of which it may be said, as bits. */
        int saidOf(Town t, State s) {
            int top = 0;
            for (int i = 0; i < steps; i++) {
                if (ops[i] == NOT && top > 0) {
                    sets[top - 1] = ~sets[top - 1];
                } else if (ops[i] == AND && top > 1) {
                    top--;
                    sets[top - 1] &= sets[top];
                } else if (ops[i] == OR && top > 1) {
                    top--;
                    sets[top - 1] |= sets[top];
                } else if (top < MOST_ONES) {
                    sets[top] = plainSet(t, s, i);
                    top++;
                }
            }
            return top > 0 ? sets[0] & (1 << t.pains) - 1 : 0;
        }

        private int plainSet(Town t, State s, int i) {
            int set = 0;
            for (int p = 0; p < t.pains; p++) {
                if (holds(t, s, i, p)) {
                    set |= 1 << p;
                }
            }
            return set;
        }

        private boolean holds(Town t, State s, int i, int p) {
            switch (ops[i]) {
                case CARRIED: return s.isCarried(p);
                case LOST: return s.where[p] == AT_STREET;
                case OVER: return s.where[p] == AT_OVER;
                case OF: return t.owner[p] == args[i];
                case WITH: return s.where[p] == args[i];
                case IS: return t.sortOf[p] == args[i];
                case WEIGHT: return compares(t.weight[p], i);
                case LEFT: return compares(s.left[p], i);
                default: return compares(p, i);
            }
        }

        private boolean compares(int value, int i) {
            if (signs[i] == '<') {
                return value < args[i];
            }
            return signs[i] == '>' ? value > args[i] : value == args[i];
        }
    }

    /**
     * Which PORTER carries which PAIN if they are shared out anew: FREE, FEWEST and REST.
     * A way of FREE and FEWEST is told by a key: what it costs, times CODES, and its PORTERS PAIN by PAIN as the
     * digits of a number to the base of 5. Both add up PORTER by PORTER, and the least key is the first way of the
     * least cost.
     */
    private static final class Loads {
        private static final int SETS = 1 << MOST_PAINS;
        private static final int CODES = 390625;
        private static final int TOP_DIGIT = CODES / MOST_PORTERS;

        private final int[] pains = new int[MOST_PAINS];
        private int count;
        // Sets are of places in that row from here on: those of SORTS that talk to that of one in it.
        private final int[] clashes = new int[MOST_PAINS];
        private final int[] paidHours = new int[MOST_PAINS];
        private boolean countsPorters;
        private final int[] has = new int[MOST_PORTERS];
        private final int[] borne = new int[MOST_PORTERS];
        // Of each set: what one PORTER HEAVES with it, his key for it (NONE if he can't carry it), and the least key
        // by which it goes to the PORTERS so far (NONE if it can't be).
        private final int[] heaved = new int[SETS];
        private final long[] keys = new long[SETS];
        private final long[] least = new long[SETS];
        private int code;

        int freeing(Town t, State s, int persons, int n) {
            int set = 0;
            for (int m = 0; m < t.persons; m++) {
                if ((persons >>> m & 1) != 0) {
                    set |= s.painsAt(t, m);
                }
            }
            gather(t, set);
            countsPorters = false;
            for (int i = 0; i < count; i++) {
                paidHours[i] = Math.min(s.left[pains[i]], n);
            }
            for (int r = 0; r < t.porters; r++) {
                has[r] = s.painsAt(t, AT_PORTER + r);
                borne[r] = s.heaveOf(t, r, has[r]);
            }
            return leastCost(t, s);
        }

        int fewestFor(Town t, State s, int set) {
            gather(t, set);
            countsPorters = true;
            for (int r = 0; r < t.porters; r++) {
                has[r] = 0;
                borne[r] = 0;
            }
            return leastCost(t, s);
        }

        private void gather(Town t, int set) {
            count = 0;
            for (int p = 0; p < t.pains; p++) {
                if ((set >>> p & 1) != 0) {
                    pains[count] = p;
                    count++;
                }
            }
            for (int i = 0; i < count; i++) {
                clashes[i] = 0;
                for (int k = 0; k < count; k++) {
                    clashes[i] |= (t.clash[pains[i]] >>> pains[k] & 1) << k;
                }
            }
        }

        private int leastCost(Town t, State s) {
            int all = (1 << count) - 1;
            for (int set = 1; set <= all; set++) {
                least[set] = NONE;
            }
            least[0] = 0;
            for (int r = 0; r < t.porters; r++) {
                findKeys(t, s, r);
                addPorter(all);
            }
            if (least[all] < 0) {
                return NONE;
            }
            code = (int) (least[all] % CODES);
            return (int) (least[all] / CODES);
        }

        private void findKeys(Town t, State s, int r) {
            keys[0] = 0;
            heaved[0] = borne[r];
            int digit = TOP_DIGIT;
            for (int i = 0; i < count; i++) {
                int p = pains[i];
                boolean never = t.isForbidden(r, p) || (has[r] & t.clash[p]) != 0;
                int heave = s.heaveOf(t, r, 1 << p);
                long coins = countsPorters ? 0 : t.fees[r] * paidHours[i];
                for (int others = 0; others < 1 << i; others++) {
                    int set = others | 1 << i;
                    heaved[set] = heaved[others] + heave;
                    boolean can = !never && keys[others] >= 0 && (others & clashes[i]) == 0
                            && heaved[set] <= t.strength[r];
                    long cost = countsPorters && others == 0 ? 1 : coins;
                    keys[set] = can ? keys[others] + cost * CODES + r * digit : NONE;
                }
                digit /= MOST_PORTERS;
            }
        }

        /** The greatest set comes first, for each needs what smaller ones were without this PORTER. */
        private void addPorter(int all) {
            for (int set = all; set > 0; set--) {
                long best = least[set];
                for (int part = set; part > 0; part = part - 1 & set) {
                    if (keys[part] >= 0 && least[set ^ part] >= 0) {
                        long key = least[set ^ part] + keys[part];
                        best = best < 0 ? key : Math.min(best, key);
                    }
                }
                least[set] = best;
            }
        }

        /** Writes PAIN by PAIN who has it by the latest way that was found. */
        void tell(int[] porterOf) {
            for (int p = 0; p < MOST_PAINS; p++) {
                porterOf[p] = NONE;
            }
            int digit = TOP_DIGIT;
            for (int i = 0; i < count && digit > 0; i++) {
                porterOf[pains[i]] = code / digit % MOST_PORTERS;
                digit /= MOST_PORTERS;
            }
        }

        /** REST: how many ROUNDS, with the FEES then. */
        int settleFees(Town t, State s, int[] fees) {
            for (int r = 0; r < MOST_PORTERS; r++) {
                fees[r] = r < t.porters ? t.fees[r] : NONE;
            }
            int rounds = 0;
            boolean changed = true;
            while (changed && rounds < MOST_ROUNDS) {
                shareByFees(t, s, fees);
                changed = changeFees(t, fees);
                rounds++;
            }
            return rounds;
        }

        private void shareByFees(Town t, State s, int[] fees) {
            for (int r = 0; r < t.porters; r++) {
                has[r] = 0;
                borne[r] = 0;
            }
            for (int p = 0; p < t.pains; p++) {
                int r = s.where[p] == AT_OVER ? NONE : cheapestFor(t, p, fees);
                if (r != NONE) {
                    has[r] |= 1 << p;
                    borne[r] += t.weight[p];
                }
            }
        }

        private int cheapestFor(Town t, int p, int[] fees) {
            int found = NONE;
            for (int r = 0; r < t.porters; r++) {
                if (borne[r] + t.weight[p] <= t.strength[r] && (has[r] & t.clash[p]) == 0
                        && !t.isForbidden(r, p) && (found == NONE || fees[r] < fees[found])) {
                    found = r;
                }
            }
            return found;
        }

        private boolean changeFees(Town t, int[] fees) {
            boolean changed = false;
            for (int r = 0; r < t.porters; r++) {
                int before = fees[r];
                if (has[r] == 0) {
                    fees[r] = Math.max(before - 1, 0);
                } else if (borne[r] == t.strength[r]) {
                    fees[r] = Math.min(before + 1, MOST_FEE);
                }
                changed |= fees[r] != before;
            }
            return changed;
        }
    }

    /** Who has what was dropped, by how all limp. */
    private static final class Limps {
        private final int[] lost = new int[MOST_LOST];
        private int lostCount;
        // PERSON by PERSON what he bears besides what is known to be with him, and what a way lays on him.
        private final int[] unknown = new int[MOST_PERSONS];
        private final int[] laid = new int[MOST_PERSONS];
        private final int[] chosen = new int[MOST_LOST];
        // PAIN by PAIN who has it by some way, as bits: while ways are sought, and by the latest that were found.
        private final int[] seen = new int[MOST_PAINS];
        private final int[] holders = new int[MOST_PAINS];

        /** How many ways; NONE: too many PAINS are in the street. */
        int waysBy(Town t, State s, byte[] bears) {
            int street = s.painsAt(t, AT_STREET);
            if (Integer.bitCount(street) > MOST_LOST || t.persons > bears.length) {
                return NONE;
            }
            findLost(street);
            for (int m = 0; m < t.persons; m++) {
                unknown[m] = (bears[m] & 255) - s.weightAt(t, m);
            }
            int ways = countWays(t);
            if (ways > 0) {
                System.arraycopy(seen, 0, holders, 0, MOST_PAINS);
            }
            return ways;
        }

        private void findLost(int street) {
            lostCount = 0;
            for (int p = 0; p < MOST_PAINS; p++) {
                seen[p] = 0;
                if ((street >>> p & 1) != 0 && lostCount < MOST_LOST) {
                    lost[lostCount] = p;
                    lostCount++;
                }
            }
        }

        /** A way is a number: its digits, to the base of all PERSONS and nobody, are who has each PAIN. */
        private int countWays(Town t) {
            int all = 1;
            for (int i = 0; i < lostCount; i++) {
                all *= t.persons + 1;
            }
            int ways = 0;
            for (int way = 0; way < all; way++) {
                layDown(t, way);
                if (bearsThat(t)) {
                    ways++;
                    noteWay();
                }
            }
            return ways;
        }

        private void layDown(Town t, int way) {
            for (int m = 0; m < t.persons; m++) {
                laid[m] = 0;
            }
            int rest = way;
            for (int i = 0; i < lostCount; i++) {
                int who = rest % (t.persons + 1);
                rest /= t.persons + 1;
                if (who < t.persons) {
                    chosen[i] = who;
                    laid[who] += t.weight[lost[i]];
                } else {
                    chosen[i] = NOBODY;
                }
            }
        }

        private boolean bearsThat(Town t) {
            for (int m = 0; m < t.persons; m++) {
                if (laid[m] != unknown[m]) {
                    return false;
                }
            }
            return true;
        }

        private void noteWay() {
            for (int i = 0; i < lostCount; i++) {
                seen[lost[i]] |= 1 << chosen[i];
            }
        }

        int sureHolder(int p) {
            for (int who = 0; who <= NOBODY; who++) {
                if (holders[p] == 1 << who) {
                    return who;
                }
            }
            return NONE;
        }

        int bestQuestion() {
            int best = NONE;
            int most = 0;
            for (int p = 0; p < MOST_PAINS; p++) {
                int answers = Integer.bitCount(holders[p]);
                if (answers > most) {
                    most = answers;
                    best = p;
                }
            }
            return best;
        }
    }

    /** HOURS by draws. */
    private static final class Draws {
        private int x;

        private int draw(int n) {
            x = x * 1103515245 + 12345;
            return n > 0 ? (x >>> 8) % n : 0;
        }

        /** As many HOURS as are left, n at most: how many went by. */
        int live(Town t, State s, int n, int seed) {
            x = seed;
            int gone = 0;
            while (gone < n && s.hour < END_OF_HOURS) {
                for (int r = 0; r < t.porters; r++) {
                    act(t, s, r);
                }
                s.passHours(t, 1);
                gone++;
            }
            return gone;
        }

        private void act(Town t, State s, int r) {
            int deed = draw(4);
            if (deed > 2) {
                return;
            }
            int p = draw(t.pains);
            if (deed == 0) {
                if (s.whyNotFetch(t, r, p) == 0) {
                    s.give(p, AT_PORTER + r);
                }
            } else if (deed == 1) {
                if (s.whyNotDrop(r, p) == 0) {
                    s.letFall(p);
                }
            } else {
                int o = draw(t.porters);
                if (o != r && s.whyNotHand(t, r, p, o) == 0) {
                    s.give(p, AT_PORTER + o);
                }
            }
        }
    }
}
