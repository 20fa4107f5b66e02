/** An upland in which bread is broken only with whom one has hurt; the document says what each call answers. */
public final class BrokenBread {
    public static final int NONE = -1;

    // What a call is REFUSED by.
    private static final int BAD_NUMBER = -1;
    private static final int NOT_THERE = -2;
    private static final int CANT_BE = -3;
    private static final int NO_ROOM = -5;
    private static final int BAD_TEXT = -6;
    private static final int REFUSALS = 7;

    private static final int MOST_FOLK = 7;
    private static final int MOST_TWOS = 21;
    private static final int LAST_SET = 127;
    private static final int MOST_SEEN = 6;
    private static final int MOST_LAWS = 6;
    private static final int MOST_FED = 9;
    private static final int MOST_WEIGHT = 9;
    private static final int LAST_DAY = 999;
    private static final int MOST_LASTING = 100;
    private static final int MOST_KEPT = 16;
    private static final int IMAGES = 2;

    // TEXTS.
    private static final int MOST_BYTES = 400;
    private static final int MOST_CLAUSES = 12;
    private static final int MOST_PARTS = 50;
    private static final int MOST_BRACKETS = 8;
    private static final int MOST_NUMBER = 1000;
    private static final int MOST_TIMES = 20;
    private static final int BROKEN = 2000000000;
    private static final int FARTHEST = 1000000000;

    // TERMS.
    private static final int DAY = 0;
    private static final int TRIPS = 1;
    private static final int MOOD = 2;
    private static final int TERMS = 3;

    // What can be undone, as undo() tells it.
    private static final int HARMED = 0;
    private static final int FEASTED = 1;
    private static final int PARDONED = 2;
    private static final int PASSED = 3;

    // FEW.
    private static final long ALL_PARTS = 1000000000000L;
    private static final int MOST_TRIPPED = 20;
    private static final int MOST_GUESTS = 99;

    // SEASONS.
    private static final int MOST_SEED = 1000000;
    private static final int MOST_SEASONS = 60;

    // Kinds of TOKENS; a single other byte is its own kind, 0 .. 255.
    private static final int NUMBER = 256;
    private static final int TEXT_END = 257;
    private static final int UNKNOWN = 258;
    private static final int FIRST_WORD = 259;

    // The words of both languages, a blank behind each; the kinds below stand in the same order.
    private static final String WORDS = "or and not if times to by counts feeds hungers bars harm feast pardon pass doer other weight age fed size day mood done latest harms starving at ";
    private static final int OR = 259;
    private static final int AND = 260;
    private static final int NOT = 261;
    private static final int IF = 262;
    private static final int TIMES = 263;
    private static final int TO = 264;
    private static final int BY = 265;
    private static final int COUNTS = 266;
    private static final int FEEDS = 267;
    private static final int HUNGERS = 268;
    private static final int BARS = 269;
    private static final int HARM = 270;
    private static final int FEAST = 271;
    private static final int PARDON = 272;
    private static final int PASS = 273;
    private static final int DOER = 274;
    private static final int FED_WORD = 278;
    private static final int DAY_WORD = 280;
    private static final int MOOD_WORD = 281;
    private static final int DONE = 282;
    private static final int STARVING = 285;
    private static final int AT = 286;

    // Where a LAW's words stand in the row of what they mean: as from "doer" to "mood" above.
    private static final int LAW_DOER = 0;
    private static final int LAW_OTHER = 1;
    private static final int LAW_WEIGHT = 2;
    private static final int LAW_AGE = 3;
    private static final int LAW_FED = 4;
    private static final int LAW_SIZE = 5;
    private static final int LAW_DAY = 6;
    private static final int LAW_MOOD = 7;
    private static final int LAW_WORDS = 8;

    // Where the words of ORDERS stand in theirs: "day", "done" .. "starving", "fed" 0 .. 6, "at" 0 .. 6.
    private static final int ORDER_DAY = 0;
    private static final int ORDER_DONE = 1;
    private static final int ORDER_LATEST = 2;
    private static final int ORDER_HARMS = 3;
    private static final int ORDER_STARVING = 4;
    private static final int ORDER_FED = 5;
    private static final int ORDER_AT = 12;
    private static final int ORDER_WORDS = 19;

    private final Upland live = new Upland();
    private final Upland ahead = new Upland();
    private final Upland season = new Upland();
    private final Upland[] images = new Upland[IMAGES];
    private final Past past = new Past();
    private final Past pastAhead = new Past();
    private final Tape tape = new Tape();
    private final Reader reader = new Reader();
    private final Judge judge = new Judge();
    private final Seating seating = new Seating();
    private final Parting parting = new Parting();
    private final Draws draws = new Draws();
    private final int[] orderWords = new int[ORDER_WORDS];
    private final long[] tripped = new long[MOST_TRIPPED];
    private final int[] refusedBy = new int[REFUSALS];
    private int rowCrumbs = 0;
    private int clauseStopped = NONE;
    private int latestStatus = 0;

    public BrokenBread() {
    }

    public int folk(int fed) {
        if (fed < 0 || fed > MOST_FED) {
            return told(BAD_NUMBER);
        }
        if (live.folks >= MOST_FOLK) {
            return told(NO_ROOM);
        }
        int number = live.folks;
        live.fed[number] = fed;
        live.folks = number + 1;
        past.clear();
        return told(number);
    }

    public int of(int folk, int what) {
        if (!live.has(folk)) {
            return NONE;
        }
        askLive();
        switch (what) {
            case 0:
                return live.fedOf(folk);
            case 1:
                return judge.companions(folk);
            case 2:
                return judge.hungerOf(folk, live.fedOf(folk), live.term[DAY]);
            case 3:
                return live.harmsBy(folk);
            case 4:
                return live.harmsTo(folk);
            default:
                return NONE;
        }
    }

    public int asks(int one, int other, int what) {
        if (!live.hasTwo(one, other)) {
            return NONE;
        }
        askLive();
        switch (what) {
            case 0:
                return live.weightOf(one, other);
            case 1:
                return live.weightOf(one, other) > 0 ? live.sinceOf(one, other) : NONE;
            case 2:
                return judge.countsOf(one, other);
            case 3:
                return judge.isBarred(one, other) ? 1 : 0;
            case 4:
                return judge.maySit(one, other) ? 1 : 0;
            default:
                return NONE;
        }
    }

    public int terms(int what, int value) {
        if (what < 0 || what >= TERMS || value < 0 || value > mostOfTerm(what)) {
            return told(BAD_NUMBER);
        }
        int was = live.term[what];
        live.term[what] = value;
        past.clear();
        return told(was);
    }

    public int feed(int a, int b, int c, int d, int e) {
        if (tape.length > MOST_BYTES - 20) {
            return NONE;
        }
        tape.take(a);
        tape.take(b);
        tape.take(c);
        tape.take(d);
        tape.take(e);
        return tape.length;
    }

    public int end(int n) {
        if (n < 0 || n > tape.length) {
            return NONE;
        }
        tape.length = n;
        return n;
    }

    public int row() {
        if (tape.length == 0) {
            return told(BAD_TEXT);
        }
        int harms = 0;
        int crumbs = 0;
        for (int i = 0; i < tape.length; i += 3) {
            if (rowHarm(i)) {
                harms++;
            } else {
                crumbs++;
            }
        }
        rowCrumbs = crumbs;
        tape.length = 0;
        past.clear();
        return told(harms);
    }

    public int crumbs() {
        return rowCrumbs;
    }

    public int law() {
        if (live.lawCount >= MOST_LAWS) {
            tape.length = 0;
            return told(NO_ROOM);
        }
        if (!reader.readWhole(tape, false)) {
            return told(BAD_TEXT);
        }
        int number = live.lawCount;
        live.laws[number] = reader.draft.trimmed();
        live.lawCount = number + 1;
        return told(number);
    }

    public int orders() {
        clauseStopped = NONE;
        if (!reader.readWhole(tape, true)) {
            return told(BAD_TEXT);
        }
        ahead.become(live);
        pastAhead.become(past);
        askLive();
        orderWords[ORDER_DONE] = 0;
        orderWords[ORDER_LATEST] = NONE;
        fillOrderWords(reader.draft.atWhom);
        for (int clause = 0; clause < reader.draft.clauses; clause++) {
            if (!ranClause(reader.draft, clause)) {
                live.become(ahead);
                past.become(pastAhead);
                clauseStopped = clause;
                return told(CANT_BE);
            }
        }
        return told(orderWords[ORDER_DONE]);
    }

    public int fault() {
        return reader.place;
    }

    public int stopped() {
        return clauseStopped;
    }

    public int force(int law) {
        if (!live.hasLaw(law)) {
            return told(NOT_THERE);
        }
        int was = live.inForce;
        live.inForce = law;
        told(0);
        return was;
    }

    public int harm(int one, int other, int weight) {
        return told(doHarm(one, other, weight));
    }

    public int feast(int set) {
        askLive();
        return told(doFeast(set));
    }

    public int pardon(int one, int other) {
        return told(doPardon(one, other));
    }

    public int pass() {
        askLive();
        return told(doPass());
    }

    public int undo() {
        return told(past.undoLatest(live));
    }

    public int largest(int what) {
        lookLive();
        int set = seating.largestTable();
        if (set == 0) {
            return NONE;
        }
        return sizeOrSet(set, what);
    }

    public int tables(int what) {
        lookLive();
        parting.intoTables(seating);
        return parting.answer(what);
    }

    public int newHarms(int what) {
        lookLive();
        seating.lookAtBars(judge);
        parting.intoSets(seating);
        return parting.answer(what);
    }

    public int leftOut(int what) {
        lookLive();
        return sizeOrSet(seating.fewestOut(), what);
    }

    public int seat(int set, int i) {
        if (!live.hasSet(set) || i < 0 || i >= Integer.bitCount(set)) {
            return NONE;
        }
        askLive();
        int left = set;
        for (int k = 0; k < i; k++) {
            left &= ~(1 << mostHurt(left, set));
        }
        return mostHurt(left, set);
    }

    public int chain(int from, int to, int i) {
        if (!live.has(from) || !live.has(to) || i < NONE) {
            return NONE;
        }
        lookLive();
        int length = seating.stepsTo(from, to);
        if (i == NONE || length == NONE) {
            return length;
        }
        return i < length ? seating.stepOf(from, to, i) : NONE;
    }

    public int circles() {
        lookLive();
        return seating.circlesWithout(NONE, NONE);
    }

    public int bridges(int i) {
        lookLive();
        seating.findBridges();
        return seating.twoOf(i);
    }

    public int sat(int set) {
        if (set < 0 || set > LAST_SET || Integer.bitCount(set) < 2) {
            return told(BAD_NUMBER);
        }
        if (!live.hasSet(set)) {
            return told(NOT_THERE);
        }
        if (live.seenCount >= MOST_SEEN) {
            return told(NO_ROOM);
        }
        live.seen[live.seenCount] = set;
        live.seenCount++;
        return told(live.seenCount);
    }

    public int forget() {
        int was = live.seenCount;
        live.seenCount = 0;
        return was;
    }

    public int doubted(int i) {
        lookLive();
        seating.findDoubted(live);
        return seating.twoOf(i);
    }

    public int fitting(int set) {
        if (!live.hasSet(set)) {
            return NONE;
        }
        lookLive();
        return seating.fittingFor(set);
    }

    public int ask(int set, int what) {
        if (!live.hasSet(set)) {
            return NONE;
        }
        lookLive();
        int fitting = seating.fittingFor(set);
        int who = seating.nearestHalf(fitting);
        if (who == NONE) {
            return NONE;
        }
        switch (what) {
            case 0:
                return who;
            case 1:
                return seating.companionsAmong(who, fitting);
            default:
                return NONE;
        }
    }

    public int lasts(int folk) {
        if (!live.has(folk)) {
            return NONE;
        }
        askLive();
        int fed = live.fedOf(folk);
        for (int days = 0; days <= MOST_LASTING; days++) {
            if (fed == 0) {
                return days;
            }
            fed = Math.max(0, fed - judge.hungerOf(folk, fed, live.term[DAY] + days));
        }
        return NONE;
    }

    public int fedBy(int f) {
        if (f < 0 || f > MOST_FED + 1) {
            return NONE;
        }
        lookLive();
        return seating.fewestFeeding(live.fedBelow(f));
    }

    public long few(int k, int n) {
        if (k < 1 || k > MOST_TRIPPED || n < 0 || n > MOST_GUESTS) {
            return NONE;
        }
        for (int j = 0; j < MOST_TRIPPED; j++) {
            tripped[j] = 0L;
        }
        tripped[0] = ALL_PARTS;
        for (int guest = 0; guest < n; guest++) {
            seatGuest(live.term[TRIPS]);
        }
        long together = 0L;
        for (int j = 0; j < k; j++) {
            together += tripped[j];
        }
        return together;
    }

    public int compare(int law) {
        if (!live.hasLaw(law)) {
            return NONE;
        }
        judge.look(live, live.lawOf(law));
        seating.lookAt(judge);
        return Integer.bitCount(seating.largestTable());
    }

    public int seasons(int seed, int n) {
        if (seed < 0 || seed > MOST_SEED || n < 1 || n > MOST_SEASONS) {
            return told(BAD_NUMBER);
        }
        if (live.folks == 0) {
            return told(CANT_BE);
        }
        season.become(live);
        judge.look(season, season.lawOf(season.inForce));
        draws.begin(seed);
        for (int k = 0; k < n && season.term[DAY] < LAST_DAY; k++) {
            oneSeason();
        }
        return told(season.starving());
    }

    public int drawn(int one, int other) {
        if (!season.has(one)) {
            return NONE;
        }
        if (other == NONE) {
            return season.fedOf(one);
        }
        return season.hasTwo(one, other) ? season.weightOf(one, other) : NONE;
    }

    public int image(int k) {
        if (k < 0 || k >= IMAGES) {
            return told(BAD_NUMBER);
        }
        Upland kept = images[k];
        if (kept == null) {
            kept = new Upland();
            images[k] = kept;
        }
        kept.become(live);
        return told(0);
    }

    public int back(int k) {
        if (k < 0 || k >= IMAGES) {
            return told(BAD_NUMBER);
        }
        Upland kept = images[k];
        if (kept == null) {
            return told(NOT_THERE);
        }
        live.become(kept);
        past.clear();
        return told(0);
    }

    public int count(int what) {
        switch (what) {
            case 0:
                return live.folks;
            case 1:
                return live.harmCount();
            case 2:
                return live.starving();
            case 3:
                return live.seenCount;
            case 4:
                return live.lawCount;
            case 5:
                return past.kept;
            case 6:
                return tape.length;
            case 7:
            case 8:
            case 9:
                return refusedBy[what - 6];
            case 10:
            case 11:
                return refusedBy[what - 5];
            case 12:
                return live.inForce;
            case 13:
            case 14:
            case 15:
                return live.term[what - 13];
            default:
                return NONE;
        }
    }

    public int status() {
        return latestStatus;
    }

    /** Keeps what a call was REFUSED by; an answer of 0 or more was not. */
    private int told(int answer) {
        latestStatus = Math.min(answer, 0);
        if (answer < 0 && answer > -REFUSALS) {
            refusedBy[-answer]++;
        }
        return answer;
    }

    private void askLive() {
        judge.look(live, live.lawOf(live.inForce));
    }

    private void lookLive() {
        askLive();
        seating.lookAt(judge);
    }

    private static int mostOfTerm(int what) {
        switch (what) {
            case DAY:
                return LAST_DAY;
            case TRIPS:
                return 10;
            default:
                return 9;
        }
    }

    private static int sizeOrSet(int set, int what) {
        switch (what) {
            case 0:
                return Integer.bitCount(set);
            case 1:
                return set;
            default:
                return NONE;
        }
    }

    private boolean rowHarm(int from) {
        if (from > tape.length - 3) {
            return false;
        }
        int one = tape.byteAt(from);
        int other = tape.byteAt(from + 1);
        int weight = tape.byteAt(from + 2);
        if (!live.hasTwo(one, other) || weight < 1 || weight > MOST_WEIGHT) {
            return false;
        }
        live.setHarm(one, other, weight, live.term[DAY]);
        return true;
    }

    private int doHarm(int one, int other, int weight) {
        if (weight < 1 || weight > MOST_WEIGHT || one == other) {
            return BAD_NUMBER;
        }
        if (!live.hasTwo(one, other)) {
            return NOT_THERE;
        }
        int was = live.weightOf(one, other);
        if (was == weight) {
            return CANT_BE;
        }
        past.keep(HARMED, one, other, live);
        live.setHarm(one, other, weight, live.term[DAY]);
        return was;
    }

    private int doFeast(int set) {
        if (set < 0 || set > LAST_SET) {
            return BAD_NUMBER;
        }
        if (!live.hasSet(set)) {
            return NOT_THERE;
        }
        if (!judge.isTable(set)) {
            return CANT_BE;
        }
        past.keep(FEASTED, 0, 0, live);
        judge.feedTable(set);
        return Integer.bitCount(set);
    }

    private int doPardon(int one, int other) {
        if (one == other) {
            return BAD_NUMBER;
        }
        if (!live.hasTwo(one, other)) {
            return NOT_THERE;
        }
        int was = live.weightOf(one, other);
        if (was == 0) {
            return CANT_BE;
        }
        past.keep(PARDONED, one, other, live);
        live.setHarm(one, other, 0, 0);
        return was;
    }

    private int doPass() {
        if (live.term[DAY] >= LAST_DAY) {
            return CANT_BE;
        }
        past.keep(PASSED, 0, 0, live);
        judge.passDay();
        return live.starving();
    }

    /** False: one can't be; what was run ahead of it still stands then, for the caller to take back. */
    private boolean ranClause(Script script, int clause) {
        int times = script.headOf(clause, Script.HOW_OFTEN);
        for (int k = 0; k < times; k++) {
            if (judge.tell(script, script.headOf(clause, Script.TEST), orderWords) == 1) {
                int first = judge.tell(script, script.headOf(clause, Script.SUMS), orderWords);
                int second = judge.tell(script, script.headOf(clause, Script.SUMS + 1), orderWords);
                int third = judge.tell(script, script.headOf(clause, Script.SUMS + 2), orderWords);
                if (first == BROKEN || second == BROKEN || third == BROKEN) {
                    return false;
                }
                int answer = NONE;
                switch (script.headOf(clause, Script.KIND)) {
                    case HARM:
                        answer = doHarm(first, second, third);
                        break;
                    case FEAST:
                        answer = doFeast(first);
                        orderWords[ORDER_LATEST] = answer;
                        break;
                    case PARDON:
                        answer = doPardon(first, second);
                        break;
                    default:
                        answer = doPass();
                        break;
                }
                if (answer < 0) {
                    return false;
                }
                orderWords[ORDER_DONE]++;
                fillOrderWords(script.atWhom);
            }
        }
        return true;
    }

    /** Anew behind each one that was run; who MAY sit together is dear, so only of those a TEXT says "at" of. */
    private void fillOrderWords(int atWhom) {
        orderWords[ORDER_DAY] = live.term[DAY];
        orderWords[ORDER_HARMS] = live.harmCount();
        orderWords[ORDER_STARVING] = live.starving();
        for (int p = 0; p < MOST_FOLK; p++) {
            orderWords[ORDER_FED + p] = live.fedOf(p);
            orderWords[ORDER_AT + p] = live.has(p) ? 0 : NONE;
        }
        for (int p = 0; p < MOST_FOLK; p++) {
            for (int q = p + 1; q < live.folks; q++) {
                if ((atWhom >> p & 1 | atWhom >> q & 1) == 1 && judge.maySit(p, q)) {
                    orderWords[ORDER_AT + p] |= 1 << q;
                    orderWords[ORDER_AT + q] |= 1 << p;
                }
            }
        }
    }

    private int mostHurt(int left, int set) {
        int who = NONE;
        int most = NONE;
        for (int p = 0; p < MOST_FOLK; p++) {
            if ((left >> p & 1) == 1) {
                int hurt = judge.sufferedBy(p, set);
                if (hurt > most) {
                    most = hurt;
                    who = p;
                }
            }
        }
        return who;
    }

    /** From the most who tripped down, so that each part is still that of the guests ahead when it is used. */
    private void seatGuest(int trips) {
        for (int j = MOST_TRIPPED - 1; j >= 0; j--) {
            long stays = tripped[j] * (10 - trips) / 10;
            long comes = j > 0 ? tripped[j - 1] * trips / 10 : 0L;
            tripped[j] = stays + comes;
        }
    }

    private void oneSeason() {
        int one = draws.next(season.folks);
        int other = draws.next(season.folks);
        int weight = draws.next(9) + 1;
        int deed = draws.next(4);
        if (one != other) {
            seasonDeed(deed, one, other, weight);
        }
        judge.passDay();
    }

    private void seasonDeed(int deed, int one, int other, int weight) {
        int was = season.weightOf(one, other);
        if (deed == 3) {
            season.setHarm(one, other, 0, 0);
        } else if (deed == 2) {
            int set = 1 << one | 1 << other;
            if (judge.isTable(set)) {
                judge.feedTable(set);
            }
        } else if (was != weight) {
            season.setHarm(one, other, weight, season.term[DAY]);
        }
    }

    /** The DRAWS of SEASONS. */
    private static final class Draws {
        private long s = 0L;

        void begin(int seed) {
            s = seed;
        }

        int next(int m) {
            s = (s * 1103L + 12345L) % 1000003L;
            return m > 0 ? (int) (s % m) : 0;
        }
    }

    /** All that an IMAGE keeps. */
    private static final class Upland {
        private int folks = 0;
        private int seenCount = 0;
        private int lawCount = 0;
        private int inForce = NONE;
        private final int[] fed = new int[MOST_FOLK];
        private final int[] weight = new int[MOST_FOLK * MOST_FOLK];
        private final int[] since = new int[MOST_FOLK * MOST_FOLK];
        private final int[] term = new int[TERMS];
        private final int[] seen = new int[MOST_SEEN];
        private final Script[] laws = new Script[MOST_LAWS];

        Upland() {
            term[TRIPS] = 1;
        }

        /** A LAW is never changed once it is read, so both may hold the same one. */
        void become(Upland other) {
            folks = other.folks;
            seenCount = other.seenCount;
            lawCount = other.lawCount;
            inForce = other.inForce;
            System.arraycopy(other.fed, 0, fed, 0, MOST_FOLK);
            System.arraycopy(other.weight, 0, weight, 0, MOST_FOLK * MOST_FOLK);
            System.arraycopy(other.since, 0, since, 0, MOST_FOLK * MOST_FOLK);
            System.arraycopy(other.term, 0, term, 0, TERMS);
            System.arraycopy(other.seen, 0, seen, 0, MOST_SEEN);
            for (int k = 0; k < MOST_LAWS; k++) {
                laws[k] = other.laws[k];
            }
        }

        boolean has(int p) {
            return p >= 0 && p < folks;
        }

        boolean hasTwo(int one, int other) {
            return one >= 0 && one < folks && other >= 0 && other < folks && one != other;
        }

        boolean hasSet(int set) {
            return set >= 0 && set < 1 << folks;
        }

        boolean hasLaw(int number) {
            return number >= NONE && number < lawCount;
        }

        /** No LAW (null) for NONE. */
        Script lawOf(int number) {
            return number >= 0 && number < lawCount ? laws[number] : null;
        }

        int fedOf(int p) {
            return has(p) ? fed[p] : NONE;
        }

        int weightOf(int one, int other) {
            return hasTwo(one, other) ? weight[one * MOST_FOLK + other] : 0;
        }

        int sinceOf(int one, int other) {
            return hasTwo(one, other) ? since[one * MOST_FOLK + other] : 0;
        }

        void setHarm(int one, int other, int newWeight, int day) {
            if (hasTwo(one, other)) {
                weight[one * MOST_FOLK + other] = newWeight;
                since[one * MOST_FOLK + other] = day;
            }
        }

        int harmsBy(int p) {
            int harms = 0;
            for (int q = 0; q < folks; q++) {
                harms += weightOf(p, q) > 0 ? 1 : 0;
            }
            return harms;
        }

        int harmsTo(int p) {
            int harms = 0;
            for (int q = 0; q < folks; q++) {
                harms += weightOf(q, p) > 0 ? 1 : 0;
            }
            return harms;
        }

        int harmCount() {
            int harms = 0;
            for (int p = 0; p < folks; p++) {
                harms += harmsBy(p);
            }
            return harms;
        }

        int fedBelow(int f) {
            int set = 0;
            for (int p = 0; p < folks; p++) {
                if (fed[p] < f) {
                    set |= 1 << p;
                }
            }
            return set;
        }

        int starving() {
            return Integer.bitCount(fedBelow(1));
        }
    }

    /** What can be undone: for each deed, the latest last, what HARM, FED and DAY were ahead of it. */
    private static final class Past {
        private static final int KIND = 0;
        private static final int ONE = 1;
        private static final int OTHER = 2;
        private static final int WEIGHT = 3;
        private static final int SINCE = 4;
        private static final int THEN = 5;
        private static final int FED = 6;
        private static final int WIDTH = 13;

        private final int[] deeds = new int[MOST_KEPT * WIDTH];
        private int kept = 0;

        void clear() {
            kept = 0;
        }

        void become(Past other) {
            kept = other.kept;
            System.arraycopy(other.deeds, 0, deeds, 0, MOST_KEPT * WIDTH);
        }

        void keep(int kind, int one, int other, Upland land) {
            if (kept >= MOST_KEPT) {
                forgetOldest();
            }
            int from = kept * WIDTH;
            deeds[from + KIND] = kind;
            deeds[from + ONE] = one;
            deeds[from + OTHER] = other;
            deeds[from + WEIGHT] = land.weightOf(one, other);
            deeds[from + SINCE] = land.sinceOf(one, other);
            deeds[from + THEN] = land.term[DAY];
            System.arraycopy(land.fed, 0, deeds, from + FED, MOST_FOLK);
            kept++;
        }

        private void forgetOldest() {
            for (int i = WIDTH; i < MOST_KEPT * WIDTH; i++) {
                deeds[i - WIDTH] = deeds[i];
            }
            kept = MOST_KEPT - 1;
        }

        int undoLatest(Upland land) {
            if (kept < 1) {
                return CANT_BE;
            }
            kept--;
            int from = kept * WIDTH;
            land.term[DAY] = deeds[from + THEN];
            System.arraycopy(deeds, from + FED, land.fed, 0, MOST_FOLK);
            land.setHarm(deeds[from + ONE], deeds[from + OTHER], deeds[from + WEIGHT], deeds[from + SINCE]);
            return deeds[from + KIND];
        }
    }

    private static final class Tape {
        private final int[] bytes = new int[MOST_BYTES];
        private int length = 0;

        void take(int number) {
            for (int shift = 24; shift >= 0; shift -= 8) {
                if (length < MOST_BYTES) {
                    bytes[length] = number >> shift & 255;
                    length++;
                }
            }
        }

        int byteAt(int i) {
            return i >= 0 && i < length ? bytes[i] : NONE;
        }
    }

    /**
     * A TEXT that was read. Of each CLAUSE its heads tell kind, TIMES, where in the code its TEST begins (NONE:
     * it has no "if"), and where each SUM does (NONE: it has fewer). The code is for a stack, an act a cell.
     * Of whom ORDERS say "at" is kept as bits.
     */
    private static final class Script {
        private static final int KIND = 0;
        private static final int HOW_OFTEN = 1;
        private static final int TEST = 2;
        private static final int SUMS = 3;
        private static final int WIDTH = 6;

        // Acts; that of a binary sign is the sign's byte. What an act is of stands above its lowest nine bits.
        private static final int ACT_BITS = 9;
        private static final int ACT_MASK = 511;
        private static final int STOP = TEXT_END;
        private static final int WORD = UNKNOWN;

        private final int[] heads;
        private final int[] code;
        private int clauses = 0;
        private int length = 0;
        private int atWhom = 0;

        Script(int mostClauses, int mostCode) {
            heads = new int[Math.max(0, mostClauses) * WIDTH];
            code = new int[Math.max(0, mostCode)];
        }

        void clear() {
            clauses = 0;
            length = 0;
            atWhom = 0;
        }

        Script trimmed() {
            Script same = new Script(clauses, length);
            same.clauses = clauses;
            same.length = length;
            System.arraycopy(heads, 0, same.heads, 0, same.heads.length);
            System.arraycopy(code, 0, same.code, 0, same.code.length);
            return same;
        }

        void open(int kind) {
            int from = clauses * WIDTH;
            if (from + WIDTH > heads.length) {
                return;
            }
            for (int k = 0; k < WIDTH; k++) {
                heads[from + k] = NONE;
            }
            heads[from + KIND] = kind;
            heads[from + HOW_OFTEN] = 1;
            clauses++;
        }

        /** Of the CLAUSE that was opened last. */
        void mark(int what, int value) {
            int at = (clauses - 1) * WIDTH + what;
            if (clauses > 0 && what >= 0 && what < WIDTH && at < heads.length) {
                heads[at] = value;
            }
        }

        void put(int act, int with) {
            if (length < code.length) {
                code[length] = with << ACT_BITS | act;
                length++;
            }
        }

        /** An act that skips what stands behind it learns how far only when that has been read. */
        void skipToHere(int at, int act) {
            if (at >= 0 && at < length) {
                code[at] = length << ACT_BITS | act;
            }
        }

        int headOf(int clause, int what) {
            int at = clause * WIDTH + what;
            boolean there = clause >= 0 && clause < clauses && what >= 0 && what < WIDTH && at < heads.length;
            return there ? heads[at] : NONE;
        }
    }

    /** Reads a TAPE, which is empty then, into a draft; place is its FAULT. */
    private static final class Reader {
        private static final int MOST_TOKENS = MOST_BYTES + 1;

        private final int[] kinds = new int[MOST_TOKENS];
        private final int[] values = new int[MOST_TOKENS];
        private final int[] places = new int[MOST_TOKENS];
        // Each byte is of one act at most, and a CLAUSE has three SUMS and a TEST at most, a stop behind each.
        private final Script draft = new Script(MOST_CLAUSES, MOST_BYTES + 4 * MOST_CLAUSES);
        private int tokens = 0;
        private int at = 0;
        private int now = TEXT_END;
        private int nowValue = 0;
        private int parts = 0;
        private boolean ofOrders = false;
        private int place = NONE;

        boolean readWhole(Tape tape, boolean asOrders) {
            split(tape);
            tape.length = 0;
            draft.clear();
            parts = 0;
            ofOrders = asOrders;
            place = NONE;
            goTo(0);
            for (int clause = 0; clause < MOST_CLAUSES; clause++) {
                if (!readClause()) {
                    return false;
                }
                if (now == TEXT_END) {
                    return true;
                }
                if (!took(';')) {
                    return false;
                }
            }
            return failed();
        }

        private void split(Tape tape) {
            tokens = 0;
            int i = 0;
            while (i < tape.length) {
                int from = i;
                int first = tape.byteAt(from);
                i++;
                if (isLetter(first)) {
                    while (i < tape.length && isLetter(tape.byteAt(i))) {
                        i++;
                    }
                    addToken(wordOf(tape, from, i), 0, from);
                } else if (isDigit(first)) {
                    while (i < tape.length && isDigit(tape.byteAt(i))) {
                        i++;
                    }
                    addToken(NUMBER, numberOf(tape, from, i), from);
                } else if (first != ' ') {
                    addToken(first, 0, from);
                }
            }
            addToken(TEXT_END, 0, tape.length);
        }

        private void addToken(int kind, int value, int from) {
            if (tokens < MOST_TOKENS) {
                kinds[tokens] = kind;
                values[tokens] = value;
                places[tokens] = from;
                tokens++;
            }
        }

        private static boolean isLetter(int b) {
            return b >= 'a' && b <= 'z';
        }

        private static boolean isDigit(int b) {
            return b >= '0' && b <= '9';
        }

        /** One more than the most stands for all beyond it: a long row of digits must not wrap around. */
        private static int numberOf(Tape tape, int from, int to) {
            int value = 0;
            for (int i = from; i < to; i++) {
                value = Math.min(MOST_NUMBER + 1, value * 10 + tape.byteAt(i) - '0');
            }
            return value;
        }

        private static int wordOf(Tape tape, int from, int to) {
            int kind = FIRST_WORD;
            int begin = 0;
            for (int i = 0; i < WORDS.length(); i++) {
                if (WORDS.charAt(i) == ' ') {
                    if (i - begin == to - from && isSame(tape, from, begin, i - begin)) {
                        return kind;
                    }
                    kind++;
                    begin = i + 1;
                }
            }
            return UNKNOWN;
        }

        private static boolean isSame(Tape tape, int from, int begin, int length) {
            for (int k = 0; k < length; k++) {
                if (tape.byteAt(from + k) != WORDS.charAt(begin + k)) {
                    return false;
                }
            }
            return true;
        }

        /** Behind the last TOKEN there is nothing but the end again. */
        private void goTo(int token) {
            at = Math.max(0, Math.min(token, tokens - 1));
            now = kinds[at];
            nowValue = values[at];
        }

        private boolean failed() {
            place = places[at];
            return false;
        }

        private boolean took(int kind) {
            if (now != kind) {
                return failed();
            }
            goTo(at + 1);
            return true;
        }

        private boolean readClause() {
            int sums = sumsOf(now);
            if (sums == NONE) {
                return failed();
            }
            draft.open(now);
            goTo(at + 1);
            for (int k = 0; k < sums; k++) {
                if (k > 0 && !took(k == 1 ? TO : BY)) {
                    return false;
                }
                draft.mark(Script.SUMS + k, draft.length);
                if (!readSum(0)) {
                    return false;
                }
                draft.put(Script.STOP, 0);
            }
            if (now == TIMES && ofOrders && !readTimes()) {
                return false;
            }
            if (now == IF) {
                goTo(at + 1);
                draft.mark(Script.TEST, draft.length);
                if (!readTest(0)) {
                    return false;
                }
                draft.put(Script.STOP, 0);
            }
            return true;
        }

        /** How many SUMS a CLAUSE of that kind has; NONE: this language has no such CLAUSE. */
        private int sumsOf(int kind) {
            switch (kind) {
                case COUNTS:
                case FEEDS:
                case HUNGERS:
                    return ofOrders ? NONE : 1;
                case BARS:
                    return ofOrders ? NONE : 0;
                case HARM:
                    return ofOrders ? 3 : NONE;
                case FEAST:
                    return ofOrders ? 1 : NONE;
                case PARDON:
                    return ofOrders ? 2 : NONE;
                case PASS:
                    return ofOrders ? 0 : NONE;
                default:
                    return NONE;
            }
        }

        private boolean readTimes() {
            goTo(at + 1);
            if (now != NUMBER || nowValue < 1 || nowValue > MOST_TIMES) {
                return failed();
            }
            draft.mark(Script.HOW_OFTEN, nowValue);
            goTo(at + 1);
            return true;
        }

        private boolean readTest(int depth) {
            if (!readBoth(depth)) {
                return false;
            }
            for (int k = 0; k < MOST_TOKENS && now == OR; k++) {
                int skip = draft.length;
                draft.put(OR, 0);
                goTo(at + 1);
                if (!readBoth(depth)) {
                    return false;
                }
                draft.skipToHere(skip, OR);
            }
            return true;
        }

        private boolean readBoth(int depth) {
            if (!readPlain(depth)) {
                return false;
            }
            for (int k = 0; k < MOST_TOKENS && now == AND; k++) {
                int skip = draft.length;
                draft.put(AND, 0);
                goTo(at + 1);
                if (!readPlain(depth)) {
                    return false;
                }
                draft.skipToHere(skip, AND);
            }
            return true;
        }

        /** Rows of "not" are counted, not gone into: a TAPE has room for a hundred of them. */
        private boolean readPlain(int depth) {
            boolean turned = false;
            for (int k = 0; k < MOST_TOKENS && now == NOT; k++) {
                turned = !turned;
                goTo(at + 1);
            }
            if (now == '(') {
                if (depth >= MOST_BRACKETS) {
                    return failed();
                }
                goTo(at + 1);
                if (!readTest(depth + 1) || !took(')')) {
                    return false;
                }
            } else if (!readCompared(depth)) {
                return false;
            }
            if (turned) {
                draft.put(NOT, 0);
            }
            return true;
        }

        private boolean readCompared(int depth) {
            if (!readSum(depth)) {
                return false;
            }
            int sign = now;
            if (sign != '<' && sign != '>' && sign != '=') {
                return failed();
            }
            goTo(at + 1);
            if (!readSum(depth)) {
                return false;
            }
            draft.put(sign, 0);
            return true;
        }

        private boolean readSum(int depth) {
            if (!readTerm(depth)) {
                return false;
            }
            for (int k = 0; k < MOST_TOKENS && (now == '+' || now == '-'); k++) {
                int sign = now;
                goTo(at + 1);
                if (!readTerm(depth)) {
                    return false;
                }
                draft.put(sign, 0);
            }
            return true;
        }

        private boolean readTerm(int depth) {
            if (!readPart(depth)) {
                return false;
            }
            for (int k = 0; k < MOST_TOKENS && (now == '*' || now == '/' || now == '%'); k++) {
                int sign = now;
                goTo(at + 1);
                if (!readPart(depth)) {
                    return false;
                }
                draft.put(sign, 0);
            }
            return true;
        }

        private boolean readPart(int depth) {
            if (now == '[') {
                if (depth >= MOST_BRACKETS) {
                    return failed();
                }
                goTo(at + 1);
                return readSum(depth + 1) && took(']');
            }
            if (parts >= MOST_PARTS) {
                return failed();
            }
            parts++;
            if (now != NUMBER) {
                return ofOrders ? readOrderWord() : readLawWord();
            }
            if (nowValue > MOST_NUMBER) {
                return failed();
            }
            draft.put(NUMBER, nowValue);
            goTo(at + 1);
            return true;
        }

        private boolean readLawWord() {
            if (now < DOER || now > MOOD_WORD) {
                return failed();
            }
            draft.put(Script.WORD, now - DOER);
            goTo(at + 1);
            return true;
        }

        private boolean readOrderWord() {
            int word = now;
            if (word == FED_WORD || word == AT) {
                goTo(at + 1);
                if (now != NUMBER || nowValue >= MOST_FOLK) {
                    return failed();
                }
                draft.put(Script.WORD, (word == AT ? ORDER_AT : ORDER_FED) + nowValue);
                draft.atWhom |= word == AT ? 1 << nowValue : 0;
            } else if (word == DAY_WORD) {
                draft.put(Script.WORD, ORDER_DAY);
            } else if (word >= DONE && word <= STARVING) {
                draft.put(Script.WORD, ORDER_DONE + word - DONE);
            } else {
                return failed();
            }
            goTo(at + 1);
            return true;
        }
    }

    /** Asks a LAW (null: no CLAUSE) of the FOLK of an upland; tells SUMS and TESTS of both languages. */
    private static final class Judge {
        private Upland land = new Upland();
        private Script law = null;
        private final int[] lawWords = new int[LAW_WORDS];
        private final long[] stack = new long[MOST_PARTS + 1];

        void look(Upland where, Script by) {
            land = where;
            law = by;
        }

        int folks() {
            return land.folks;
        }

        int countsOf(int doer, int other) {
            knowTwo(doer, other);
            return tellsLaw(COUNTS, lawWords[LAW_WEIGHT]);
        }

        boolean isBarred(int doer, int other) {
            knowTwo(doer, other);
            return tellsLaw(BARS, NONE) != NONE;
        }

        boolean maySit(int one, int other) {
            if (one == other) {
                return false;
            }
            knowTwo(one, other);
            int counted = tellsLaw(COUNTS, lawWords[LAW_WEIGHT]);
            boolean barred = tellsLaw(BARS, NONE) != NONE;
            if (!barred) {
                knowTwo(other, one);
                counted += tellsLaw(COUNTS, lawWords[LAW_WEIGHT]);
                barred = tellsLaw(BARS, NONE) != NONE;
            }
            return !barred && counted > 0;
        }

        int companions(int p) {
            int set = 0;
            for (int q = 0; q < land.folks; q++) {
                if (maySit(p, q)) {
                    set |= 1 << q;
                }
            }
            return set;
        }

        boolean isTable(int set) {
            for (int p = 0; p < MOST_FOLK; p++) {
                for (int q = p + 1; q < MOST_FOLK; q++) {
                    if ((set >> p & set >> q & 1) == 1 && !maySit(p, q)) {
                        return false;
                    }
                }
            }
            return Integer.bitCount(set) >= 2;
        }

        int sufferedBy(int p, int set) {
            int together = 0;
            for (int q = 0; q < MOST_FOLK; q++) {
                if (q != p && (set >> q & 1) == 1) {
                    together += countsOf(q, p);
                }
            }
            return together;
        }

        int hungerOf(int p, int fed, int day) {
            knowOne(p, fed, NONE, day);
            return tellsLaw(HUNGERS, 1);
        }

        /** What a meal FEEDS asks of nobody but the one who eats, so each may eat at once. */
        void feedTable(int set) {
            int size = Integer.bitCount(set);
            for (int p = 0; p < land.folks; p++) {
                if ((set >> p & 1) == 1) {
                    knowOne(p, land.fed[p], size, land.term[DAY]);
                    land.fed[p] = Math.min(MOST_FED, land.fed[p] + tellsLaw(FEEDS, 2));
                }
            }
        }

        /** How one HUNGERS asks of nobody else either. */
        void passDay() {
            for (int p = 0; p < land.folks; p++) {
                land.fed[p] = Math.max(0, land.fed[p] - hungerOf(p, land.fed[p], land.term[DAY]));
            }
            land.term[DAY]++;
        }

        private void knowTwo(int doer, int other) {
            boolean there = land.hasTwo(doer, other);
            int harm = there ? doer * MOST_FOLK + other : 0;
            int weight = there ? land.weight[harm] : 0;
            knowOne(doer, there ? land.fed[doer] : NONE, NONE, land.term[DAY]);
            lawWords[LAW_OTHER] = other;
            lawWords[LAW_WEIGHT] = weight;
            lawWords[LAW_AGE] = weight > 0 ? land.term[DAY] - land.since[harm] : NONE;
        }

        private void knowOne(int doer, int fed, int size, int day) {
            lawWords[LAW_DOER] = doer;
            lawWords[LAW_OTHER] = NONE;
            lawWords[LAW_WEIGHT] = NONE;
            lawWords[LAW_AGE] = NONE;
            lawWords[LAW_FED] = fed;
            lawWords[LAW_SIZE] = size;
            lawWords[LAW_DAY] = day;
            lawWords[LAW_MOOD] = land.term[MOOD];
        }

        /** 0 .. 9 as the last CLAUSE of a kind that HOLDS tells; as it is without, if none does. */
        private int tellsLaw(int kind, int without) {
            if (law == null) {
                return without;
            }
            for (int clause = law.clauses - 1; clause >= 0; clause--) {
                if (law.headOf(clause, Script.KIND) == kind
                        && tell(law, law.headOf(clause, Script.TEST), lawWords) == 1) {
                    int tells = tell(law, law.headOf(clause, Script.SUMS), lawWords);
                    if (tells != BROKEN) {
                        return Math.max(0, Math.min(9, tells));
                    }
                }
            }
            return without;
        }

        /**
         * A SUM's number, a TEST's 1 or 0; whatever is BROKEN on the way breaks the whole. What a CLAUSE has
         * not (NONE) is 1: a TEST that is not there is so, and nobody asks for a SUM's number then.
         */
        int tell(Script script, int from, int[] words) {
            if (from == NONE) {
                return 1;
            }
            int top = 0;
            int at = from;
            for (int step = 0; step < script.length && at >= 0 && at < script.length; step++) {
                int act = script.code[at] & Script.ACT_MASK;
                int with = script.code[at] >> Script.ACT_BITS;
                at++;
                if (act == Script.STOP) {
                    return top == 1 ? (int) stack[0] : BROKEN;
                }
                if (act == NUMBER || act == Script.WORD) {
                    if (top >= stack.length || with < 0 || act == Script.WORD && with >= words.length) {
                        return BROKEN;
                    }
                    stack[top] = act == NUMBER ? with : words[with];
                    top++;
                } else if (top < 1) {
                    return BROKEN;
                } else if (act == NOT) {
                    stack[top - 1] = 1L - stack[top - 1];
                } else if (act == OR || act == AND) {
                    boolean settled = stack[top - 1] == (act == OR ? 1L : 0L);
                    at = settled ? with : at;
                    top = settled ? top : top - 1;
                } else {
                    if (top < 2) {
                        return BROKEN;
                    }
                    top--;
                    stack[top - 1] = joined(act, stack[top - 1], stack[top]);
                    if (stack[top - 1] == BROKEN) {
                        return BROKEN;
                    }
                }
            }
            return BROKEN;
        }

        private static long joined(int sign, long left, long right) {
            long value;
            switch (sign) {
                case '+':
                    value = left + right;
                    break;
                case '-':
                    value = left - right;
                    break;
                case '*':
                    value = left * right;
                    break;
                case '/':
                    value = right == 0L ? BROKEN : left / right;
                    break;
                case '%':
                    value = right == 0L ? BROKEN : left % right;
                    break;
                case '<':
                    value = left < right ? 1L : 0L;
                    break;
                case '>':
                    value = left > right ? 1L : 0L;
                    break;
                default:
                    value = left == right ? 1L : 0L;
                    break;
            }
            return value > FARTHEST || value < -FARTHEST ? BROKEN : value;
        }
    }

    /** Who MAY sit with whom, looked at once for all, and what follows from that alone. */
    private static final class Seating {
        private int folks = 0;
        private final int[] may = new int[MOST_FOLK];
        private final int[] bars = new int[MOST_FOLK];
        private final int[] steps = new int[MOST_FOLK];
        private final int[] twos = new int[MOST_TWOS];
        private final int[] fewest = new int[LAST_SET + 1];
        private final boolean[] parts = new boolean[LAST_SET + 1];
        private int twoCount = 0;

        void lookAt(Judge judge) {
            folks = Math.min(MOST_FOLK, judge.folks());
            for (int p = 0; p < folks; p++) {
                may[p] = 0;
            }
            for (int p = 0; p < folks; p++) {
                for (int q = p + 1; q < folks; q++) {
                    if (judge.maySit(p, q)) {
                        may[p] |= 1 << q;
                        may[q] |= 1 << p;
                    }
                }
            }
        }

        /** Whom one BARS or is BARRED by. */
        void lookAtBars(Judge judge) {
            for (int p = 0; p < folks; p++) {
                bars[p] = 0;
            }
            for (int p = 0; p < folks; p++) {
                for (int q = p + 1; q < folks; q++) {
                    if (judge.isBarred(p, q) || judge.isBarred(q, p)) {
                        bars[p] |= 1 << q;
                        bars[q] |= 1 << p;
                    }
                }
            }
        }

        private boolean isThere(int p) {
            return p >= 0 && p < folks;
        }

        int mayOf(int p) {
            return isThere(p) ? may[p] : 0;
        }

        int barsOf(int p) {
            return isThere(p) ? bars[p] : 0;
        }

        private int everybody() {
            return (1 << folks) - 1;
        }

        private boolean isTable(int set) {
            for (int p = 0; p < folks; p++) {
                int others = set & ~(1 << p);
                if ((set >> p & 1) == 1 && (others & ~may[p]) != 0) {
                    return false;
                }
            }
            return Integer.bitCount(set) >= 2;
        }

        /** 0: there is none. */
        int largestTable() {
            int largest = 0;
            for (int set = 1; set <= everybody(); set++) {
                if (Integer.bitCount(set) > Integer.bitCount(largest) && isTable(set)) {
                    largest = set;
                }
            }
            return largest;
        }

        int fewestOut() {
            findParts();
            int best = everybody();
            for (int out = 0; out <= everybody(); out++) {
                int stay = everybody() & ~out;
                if (Integer.bitCount(out) < Integer.bitCount(best) && parts[stay]) {
                    best = out;
                }
            }
            return best;
        }

        /** Which sets can be parted into TABLES: the lowest one's TABLE first, the rest is a lower set. */
        private void findParts() {
            parts[0] = true;
            for (int set = 1; set <= everybody(); set++) {
                int lowest = set & -set;
                parts[set] = false;
                for (int table = set; table > 0 && !parts[set]; table = table - 1 & set) {
                    parts[set] = (table & lowest) != 0 && parts[set & ~table] && isTable(table);
                }
            }
        }

        int fewestFeeding(int hungry) {
            for (int set = 0; set <= LAST_SET; set++) {
                fewest[set] = NONE;
            }
            fewest[0] = 0;
            for (int table = 1; table <= everybody(); table++) {
                if (isTable(table)) {
                    addTable(table & hungry);
                }
            }
            return hungry >= 0 && hungry <= LAST_SET ? fewest[hungry] : NONE;
        }

        /** From the largest set down a set that this TABLE makes larger was gone past: it is used once at most. */
        private void addTable(int fed) {
            for (int set = LAST_SET; set >= 0; set--) {
                int more = set | fed;
                if (more <= LAST_SET && fewest[set] != NONE) {
                    int by = fewest[set] + 1;
                    fewest[more] = fewest[more] == NONE ? by : Math.min(fewest[more], by);
                }
            }
        }

        /** NONE: there is no CHAIN. */
        int stepsTo(int from, int to) {
            if (!isThere(from) || !isThere(to)) {
                return NONE;
            }
            for (int p = 0; p < folks; p++) {
                steps[p] = NONE;
            }
            steps[to] = 0;
            for (int far = 0; far < folks; far++) {
                for (int p = 0; p < folks; p++) {
                    if (steps[p] == NONE && isStepAhead(p, far)) {
                        steps[p] = far + 1;
                    }
                }
            }
            return steps[from];
        }

        private boolean isStepAhead(int p, int far) {
            for (int q = 0; q < folks; q++) {
                if (steps[q] == far && (may[p] >> q & 1) == 1) {
                    return true;
                }
            }
            return false;
        }

        /** The i-th of a CHAIN of which stepsTo() told that it has more. */
        int stepOf(int from, int to, int i) {
            int who = from;
            for (int k = 0; k <= i; k++) {
                who = isThere(who) && who != to ? nearer(who) : NONE;
            }
            return who;
        }

        private int nearer(int p) {
            for (int q = 0; q < folks; q++) {
                if ((may[p] >> q & 1) == 1 && steps[q] == steps[p] - 1) {
                    return q;
                }
            }
            return NONE;
        }

        /** CIRCLES, as if a and b (NONE: nobody) could not sit together. */
        int circlesWithout(int a, int b) {
            int left = everybody();
            int circles = 0;
            for (int p = 0; p < folks; p++) {
                if ((left >> p & 1) == 1) {
                    left &= ~circleOf(p, a, b);
                    circles++;
                }
            }
            return circles;
        }

        private int circleOf(int p, int a, int b) {
            int circle = 1 << p;
            for (int k = 0; k < folks; k++) {
                for (int q = 0; q < folks; q++) {
                    if ((circle >> q & 1) == 1) {
                        int near = may[q];
                        if (q == a && b >= 0) {
                            near &= ~(1 << b);
                        }
                        if (q == b && a >= 0) {
                            near &= ~(1 << a);
                        }
                        circle |= near;
                    }
                }
            }
            return circle;
        }

        void findBridges() {
            twoCount = 0;
            int circles = circlesWithout(NONE, NONE);
            for (int p = 0; p < folks; p++) {
                for (int q = p + 1; q < folks; q++) {
                    if ((may[p] >> q & 1) == 1 && circlesWithout(p, q) > circles) {
                        addTwo(p, q);
                    }
                }
            }
        }

        void findDoubted(Upland land) {
            twoCount = 0;
            for (int p = 0; p < folks; p++) {
                for (int q = p + 1; q < folks; q++) {
                    if ((may[p] >> q & 1) == 0 && wereSeen(land, 1 << p | 1 << q)) {
                        addTwo(p, q);
                    }
                }
            }
        }

        private static boolean wereSeen(Upland land, int two) {
            for (int k = 0; k < land.seenCount; k++) {
                if ((land.seen[k] & two) == two) {
                    return true;
                }
            }
            return false;
        }

        private void addTwo(int p, int q) {
            if (twoCount < MOST_TWOS) {
                twos[twoCount] = 10 * p + q;
                twoCount++;
            }
        }

        /** How many twos were found (NONE), or the i-th. */
        int twoOf(int i) {
            if (i == NONE) {
                return twoCount;
            }
            return i >= 0 && i < twoCount ? twos[i] : NONE;
        }

        int fittingFor(int set) {
            int fits = 0;
            for (int p = 0; p < folks; p++) {
                if ((set & ~may[p]) == 0) {
                    fits |= 1 << p;
                }
            }
            return fits;
        }

        int companionsAmong(int p, int set) {
            return Integer.bitCount(mayOf(p) & set);
        }

        int nearestHalf(int fitting) {
            int who = NONE;
            int least = MOST_FOLK + 1;
            for (int p = 0; p < folks && fitting != 0; p++) {
                int off = Math.abs(2 * companionsAmong(p, fitting) - Integer.bitCount(fitting));
                if (off < least) {
                    least = off;
                    who = p;
                }
            }
            return who;
        }
    }

    /** Tries all partings of the FOLK in the order of their rows of numbers; keeps the first of the cheapest. */
    private static final class Parting {
        private boolean tablesOnly = false;
        private int folks = 0;
        private int cheapest = NONE;
        private final int[] sets = new int[MOST_FOLK];
        private final int[] numbers = new int[MOST_FOLK];
        private final int[] first = new int[MOST_FOLK];

        void intoTables(Seating seating) {
            tablesOnly = true;
            begin(seating);
        }

        void intoSets(Seating seating) {
            tablesOnly = false;
            begin(seating);
        }

        int answer(int what) {
            if (cheapest == NONE || what < 0 || what > folks) {
                return NONE;
            }
            return what == 0 ? cheapest : first[what - 1];
        }

        private void begin(Seating seating) {
            folks = seating.folks;
            cheapest = NONE;
            place(seating, 0, 0, 0);
        }

        private void place(Seating seating, int p, int setCount, int newHarms) {
            if (p >= folks || p >= MOST_FOLK) {
                keepIfCheaper(setCount, newHarms);
                return;
            }
            for (int s = 0; s <= setCount && s < MOST_FOLK; s++) {
                int with = s < setCount ? sets[s] : 0;
                if (isAllowed(seating, p, with)) {
                    sets[s] = with | 1 << p;
                    numbers[p] = s;
                    int harms = newHarms + Integer.bitCount(with & ~seating.mayOf(p));
                    place(seating, p + 1, Math.max(setCount, s + 1), harms);
                    sets[s] = with;
                }
            }
        }

        private boolean isAllowed(Seating seating, int p, int with) {
            return tablesOnly ? (with & ~seating.mayOf(p)) == 0 : (with & seating.barsOf(p)) == 0;
        }

        private void keepIfCheaper(int setCount, int newHarms) {
            for (int s = 0; s < setCount && s < MOST_FOLK; s++) {
                if (Integer.bitCount(sets[s]) < 2) {
                    return;
                }
            }
            int price = tablesOnly ? setCount : newHarms;
            if (cheapest == NONE || price < cheapest) {
                cheapest = price;
                System.arraycopy(numbers, 0, first, 0, MOST_FOLK);
            }
        }
    }
}
