import java.util.function.IntUnaryOperator;

/**
 * Boundary cases of promises 20 to 36, one sentence of the document after the other; what stands in front of a
 * colon is the promise, or the part of the Terms.
 */
public final class EdgesOfPaperTest {
    private static final Check CHECK = new Check("edges of paper");
    private static final int[] ALL_TWOS = {1, 2, 3, 4, 5, 6, 12, 13, 14, 15, 16, 23, 24, 25, 26, 34, 35, 36, 45, 46, 56};

    private static void due(String what, long got, long want) {
        CHECK.due(what, got, want);
    }

    private static void row(String what, IntUnaryOperator got, int... want) {
        CHECK.row(what, want, got);
    }

    private static BrokenBread joined(int folks, int... twos) {
        return Check.joined(folks, twos);
    }

    /** All of so many MAY sit with all. */
    private static BrokenBread friends(int folks) {
        BrokenBread x = joined(folks);
        for (int two : ALL_TWOS) {
            if (two % 10 < folks) {
                x.harm(two / 10, two % 10, 1);
            }
        }
        return x;
    }

    private static void forced(BrokenBread x, String text) {
        x.force(Check.law(x, text));
    }

    private static void largest() {
        row("20: NONE without FOLK", joined(0)::largest, -1, -1);
        row("20: NONE of one: two at least are a TABLE", joined(1)::largest, -1, -1);
        row("20: NONE of two who MAY not", joined(2)::largest, -1, -1);
        row("20: two", joined(2, 1)::largest, 2, 3);
        row("20: all seven", friends(7)::largest, 7, 127);
        row("20: the last two of seven", joined(7, 56)::largest, 2, 96);
        row("20: the lowest as bits of two", joined(7, 6, 12)::largest, 2, 6);
        row("20: the lowest as bits of threes", joined(7, 4, 5, 45, 12, 13, 23)::largest, 3, 14);
        row("20: the larger one, though it is higher", joined(7, 1, 45, 46, 56)::largest, 3, 112);
        BrokenBread x = friends(7);
        x.pardon(0, 6);
        row("20: one two is missing", x::largest, 6, 63);
        due("20: what 2", x.largest(2), -1);
        due("20: what below", x.largest(-1), -1);
        forced(x, "bars");
        row("20: all are BARRED", x::largest, -1, -1);
    }

    private static void tables() {
        row("21: no FOLK: 0", joined(0)::tables, 0, -1, -1);
        row("21: one alone is no TABLE", joined(1)::tables, -1, -1);
        row("21: one of three has none", joined(3, 1)::tables, -1, -1, -1, -1);
        row("21: it can't be: a line of three", joined(3, 1, 12)::tables, -1, -1);
        row("21: one TABLE of seven", friends(7)::tables, 1, 0, 0, 0, 0, 0, 0, 0, -1);
        row("21: three of six", joined(6, 5, 14, 23)::tables, 3, 0, 1, 2, 2, 1, 0, -1);
        row("21: the most of seven", joined(7, 1, 23, 45, 46, 56)::tables, 3, 0, 0, 1, 1, 2, 2, 2);
        row("21: the fewest is one of four", joined(4, 1, 23, 2, 13, 3, 12)::tables, 1, 0, 0, 0, 0);
        row("21: the first of two rows", joined(4, 2, 13, 3, 12)::tables, 2, 0, 1, 0, 1);
        row("21: fewer ones come ahead of the first row", joined(5, 1, 23, 24, 34, 2, 3, 14)::tables, 2, 0, 0, 1, 1, 1);
        row("21: two TABLES, though the first row has three", joined(6, 1, 23, 45, 2, 4, 24, 13, 15, 35)::tables,
                2, 0, 1, 0, 1, 0, 1);
        BrokenBread x = joined(2, 1);
        due("21: FOLK p that is not there", x.tables(3), -1);
        due("21: what below", x.tables(-1), -1);
        forced(x, "bars if doer = 1");
        due("21: one BARS", x.tables(0), -1);
    }

    private static void newHarms() {
        row("22: no FOLK: 0", joined(0)::newHarms, 0, -1);
        row("22: one alone can't be", joined(1)::newHarms, -1, -1);
        row("22: two who MAY not", joined(2)::newHarms, 1, 0, 0, -1);
        row("22: two who MAY", joined(2, 1)::newHarms, 0, 0, 0, -1);
        row("22: three: sets of two at least", joined(3, 1)::newHarms, 2, 0, 0, 0);
        row("22: seven of whom none MAY", joined(7)::newHarms, 5, 0, 0, 0, 1, 1, 2, 2, -1);
        row("22: none is needed", friends(7)::newHarms, 0, 0, 0, 0, 0, 0, 0, 0, -1);
        row("22: the first such row", joined(4, 3, 12)::newHarms, 0, 0, 1, 1, 0);
        row("22: fewest, not the fewest sets", joined(4, 1, 23, 2)::newHarms, 0, 0, 0, 1, 1);
        BrokenBread x = joined(2);
        forced(x, "bars if doer = 0");
        row("22: none in one set with somebody who BARS", x::newHarms, -1, -1, -1);
        forced(x, "bars if doer = 1");
        row("22: or is BARRED by the other", x::newHarms, -1, -1, -1);
        forced(x, "bars if doer = 0 and other = 1");
        row("22: the lower one BARS the higher one", x::newHarms, -1, -1, -1);
        forced(x, "bars if doer = 1 and other = 0");
        row("22: the higher one BARS the lower one", x::newHarms, -1, -1, -1);
        BrokenBread y = joined(4, 1, 23);
        forced(y, "bars if doer = 3 and other = 2");
        row("22: a BARRED two costs the others", y::newHarms, 2, 0, 1, 0, 1);
        BrokenBread z = joined(3);
        forced(z, "bars if doer = 2");
        row("22: it can't be: one is left", z::newHarms, -1, -1, -1, -1);
        forced(z, "counts 1");
        row("22: by the LAW in FORCE none is needed", z::newHarms, 0, 0, 0, 0);
        due("22: FOLK p that is not there", z.newHarms(4), -1);
        due("22: what below", z.newHarms(-1), -1);
    }

    private static void leftOut() {
        row("23: no FOLK", joined(0)::leftOut, 0, 0, -1);
        row("23: one alone: nobody left: they can", joined(1)::leftOut, 1, 1, -1);
        row("23: all of two", joined(2)::leftOut, 2, 3, -1);
        row("23: nobody of two", joined(2, 1)::leftOut, 0, 0, -1);
        row("23: all of seven", joined(7)::leftOut, 7, 127, -1);
        row("23: nobody of seven", friends(7)::leftOut, 0, 0, -1);
        row("23: the lowest as bits", joined(3, 1, 12)::leftOut, 1, 1);
        row("23: not one amidst", joined(3, 2, 12)::leftOut, 1, 1);
        row("23: the highest has none", joined(7, 1, 23, 45)::leftOut, 1, 64);
        row("23: a star of seven", joined(7, 6, 16, 26, 36, 46, 56)::leftOut, 5, 31);
        due("23: what 2", joined(3).leftOut(2), -1);
        due("23: what below", joined(3).leftOut(-1), -1);
    }

    private static void seats() {
        BrokenBread x = friends(7);
        row("24: all alike: the lowest first", i -> joined(7).seat(127, i), 0, 1, 2, 3, 4, 5, 6, -1);
        row("24: those who suffered most first", i -> x.seat(127, i), 6, 5, 4, 3, 2, 1, 0, -1);
        row("24: of one", i -> x.seat(64, i), 6, -1);
        row("24: of nobody", i -> x.seat(0, i), -1, -1);
        due("24: seat below 0", x.seat(127, -1), -1);
        due("24: not so many", x.seat(127, 7), -1);
        due("24: 128", x.seat(128, 0), -1);
        due("24: a set below 0", x.seat(-1, 0), -1);
        BrokenBread y = joined(3);
        due("24: one of the set is not there", y.seat(15, 0), -1);
        due("24: one of the set is not there, alone", y.seat(8, 0), -1);
        y.harm(2, 1, 9);
        y.harm(1, 0, 8);
        row("24: by the others there alone", i -> y.seat(3, i), 0, 1, -1);
        row("24: all of them", i -> y.seat(7, i), 1, 0, 2, -1);
        forced(y, "counts 9 - weight");
        row("24: what COUNTS, without a HARM, too", i -> y.seat(7, i), 2, 0, 1, -1);
        forced(y, "counts 0;counts 9 if doer = other and doer = 2");
        row("24: each other one, not oneself", i -> y.seat(7, i), 0, 1, 2, -1);
    }

    private static void chains() {
        BrokenBread line = joined(7, 1, 12, 23, 34, 45, 56);
        due("25: the longest", line.chain(0, 6, -1), 6);
        row("25: it", i -> line.chain(0, 6, i), 1, 2, 3, 4, 5, 6, -1);
        row("25: back", i -> line.chain(6, 0, i), 5, 4, 3, 2, 1, 0, -1);
        due("25: to oneself: 0", line.chain(3, 3, -1), 0);
        due("25: to oneself, the first", line.chain(3, 3, 0), -1);
        due("25: to oneself who is not there", line.chain(7, 7, -1), -1);
        due("25: below NONE", line.chain(0, 6, -2), -1);
        BrokenBread x = joined(6, 5, 52, 1, 12, 3, 32, 24);
        due("25: the fewest", x.chain(0, 2, -1), 2);
        row("25: the first as a row", i -> x.chain(0, 4, i), 1, 2, 4, -1);
        due("25: there is none", joined(2).chain(0, 1, -1), -1);
        due("25: there is none, the first", joined(2).chain(0, 1, 0), -1);
        due("25: alone to oneself", joined(1).chain(0, 0, -1), 0);
        due("25: no FOLK", joined(0).chain(0, 0, -1), -1);
        row("25: the first as a row, by its second one", i -> joined(6, 2, 1, 14, 23, 24, 35, 45).chain(0, 5, i), 1, 4, 5, -1);
    }

    private static void circles() {
        due("26: no FOLK", joined(0).circles(), 0);
        due("26: one alone is one", joined(1).circles(), 1);
        due("26: seven alone", joined(7).circles(), 7);
        due("26: all joined", friends(7).circles(), 1);
        due("26: a line from the last to the first", joined(7, 60, 65, 54, 43, 32, 21).circles(), 1);
        due("26: two and five", joined(7, 6).circles(), 6);
        row("27: no FOLK", i -> joined(0).bridges(i - 1), 0, -1);
        row("27: one two", i -> joined(2, 1).bridges(i - 1), 1, 1, -1);
        row("27: the last two of seven", i -> joined(7, 65).bridges(i - 1), 1, 56, -1);
        row("27: a star has the most", i -> joined(7, 60, 61, 62, 63, 64, 65).bridges(i - 1), 6, 6, 16, 26, 36, 46, 56, -1);
        row("27: a star of the first", i -> joined(7, 1, 2, 3, 4, 5, 6).bridges(i - 1), 6, 1, 2, 3, 4, 5, 6, -1);
        row("27: a star of one amidst", i -> joined(7, 3, 13, 23, 34, 35, 36).bridges(i - 1), 6, 3, 13, 23, 34, 35, 36, -1);
        row("27: none in a circle of three", i -> joined(3, 1, 12, 20).bridges(i - 1), 0, -1);
        row("27: rising", i -> joined(7, 65, 10, 43, 24, 23).bridges(i - 1), 2, 1, 56, -1);
        due("27: below NONE", joined(2, 1).bridges(-2), -1);
    }

    private static void sat() {
        BrokenBread x = joined(7);
        due("28: -1 of nobody", x.sat(0), -1);
        for (int p = 0; p < 7; p++) {
            due("28: -1 of one", x.sat(1 << p), -1);
        }
        due("28: -1 below", x.sat(-1), -1);
        due("28: -1 above", x.sat(128), -1);
        due("28: all", x.sat(127), 1);
        due("28: two", x.sat(96), 2);
        for (int k = 3; k <= 6; k++) {
            due("28: how often there was", x.sat(3), k);
        }
        due("I: SAT, 6 at most", x.sat(3), -5);
        due("28: -1 comes ahead of -5", x.sat(64), -1);
        due("41: SAT", x.count(3), 6);
        due("29: how often there was", x.forget(), 6);
        due("29: nothing then", x.forget(), 0);
        due("28: from the first again", x.sat(3), 1);
        BrokenBread y = joined(2);
        due("28: -2 one of it is not there", y.sat(5), -2);
        due("28: -1 of one who is not there", y.sat(4), -1);
        for (int k = 0; k < 6; k++) {
            y.sat(3);
        }
        due("28: -2 comes ahead of -5", y.sat(7), -2);
    }

    private static void doubted() {
        row("30: none SAT", i -> joined(7).doubted(i - 1), 0, -1);
        BrokenBread x = joined(7);
        x.sat(127);
        due("30: all twos of seven", x.doubted(-1), 21);
        row("30: rising", x::doubted, 1, 2, 3, 4, 5, 6, 12, 13, 14, 15, 16, 23, 24, 25, 26, 34, 35, 36, 45, 46, 56, -1);
        due("30: below NONE", x.doubted(-2), -1);
        x.harm(6, 5, 1);
        due("30: but MAY not", x.doubted(-1), 20);
        due("30: the last one then", x.doubted(19), 46);
        due("30: no more", x.doubted(20), -1);
        forced(x, "bars");
        due("30: by the LAW in FORCE", x.doubted(-1), 21);
        x.forget();
        row("30: none behind forget()", i -> x.doubted(i - 1), 0, -1);
        BrokenBread y = joined(6);
        y.sat(48);
        y.sat(33);
        y.sat(48);
        row("30: of two sets, each two once", i -> y.doubted(i - 1), 2, 5, 45, -1);
        BrokenBread z = joined(3);
        for (int set : new int[] {3, 3, 3, 3, 3, 6}) {
            z.sat(set);
        }
        row("30: of the sixth, too", i -> z.doubted(i - 1), 2, 1, 12, -1);
    }

    private static void fitting() {
        due("31: a set of nobody: all FOLK", joined(7).fitting(0), 127);
        due("31: a set of nobody, no FOLK", joined(0).fitting(0), 0);
        BrokenBread x = friends(7);
        due("31: of all but one", x.fitting(126), 1);
        due("31: of all: none of it itself", x.fitting(127), 0);
        due("31: of the seventh", x.fitting(64), 63);
        due("31: 128", x.fitting(128), -1);
        due("31: below", x.fitting(-1), -1);
        BrokenBread y = joined(3, 1, 12);
        due("31: one of the set is not there", y.fitting(8), -1);
        due("31: one of the set is not there, too", y.fitting(9), -1);
        due("31: with each of it", y.fitting(5), 2);
        due("31: not with each of it", y.fitting(3), 0);
    }

    private static void ask() {
        BrokenBread x = joined(7, 1, 2, 3, 45, 46);
        row("32: half of seven, the lowest of alike ones", w -> x.ask(0, w), 0, 3, -1);
        row("32: nobody is FITTING", w -> x.ask(3, w), -1, -1);
        row("32: nobody is FITTING for all", w -> x.ask(127, w), -1, -1);
        row("32: one is FITTING, who MAY not sit with itself", w -> x.ask(2, w), 0, 0);
        row("32: 128", w -> x.ask(128, w), -1, -1);
        row("32: below", w -> x.ask(-1, w), -1, -1);
        due("32: what 2", x.ask(0, 2), -1);
        due("32: what below", x.ask(0, -1), -1);
        row("32: no FOLK", w -> joined(0).ask(0, w), -1, -1);
        row("32: one alone: itself: it MAY not", w -> joined(1).ask(0, w), 0, 0);
        row("32: seven alone: as far as can be", w -> joined(7).ask(0, w), 0, 0);
        row("32: seven, each with all", w -> friends(7).ask(0, w), 0, 6);
        row("32: one of the set is not there", w -> joined(1).ask(2, w), -1, -1);
        row("32: two: half of them", w -> joined(2, 1).ask(0, w), 0, 1);
        row("32: FOLK who are not FITTING, too", w -> joined(5, 1, 2, 3, 31, 41).ask(1, w), 1, 1);
        row("32: more than half is as far as fewer", w -> joined(4, 3, 31, 32, 10).ask(0, w), 0, 2);
        BrokenBread all = joined(3);
        forced(all, "counts 1");
        due("31: by a LAW by which all MAY, none of it itself", all.fitting(1), 6);
        row("32: by a LAW by which all MAY, itself: it MAY not", w -> all.ask(1, w), 1, 1);
        BrokenBread y = joined(6, 50, 51, 52, 40, 41, 42, 30);
        row("32: all or none of three are alike, one is nearer", w -> y.ask(32, w), 3, 1);
    }

    private static void lasts() {
        BrokenBread x = Check.upland(0, 1, 9);
        due("33: 0: now", x.lasts(0), 0);
        due("33: one DAY", x.lasts(1), 1);
        due("33: nine", x.lasts(2), 9);
        due("33: no such FOLK", x.lasts(3), -1);
        due("33: below", x.lasts(-1), -1);
        forced(x, "hungers 0");
        due("33: not in 100 DAYS: never", x.lasts(1), -1);
        due("33: never, but now", x.lasts(0), 0);
        forced(x, "hungers 9 if day = 99;hungers 0 if not day = 99");
        due("33: 100 at most: in 100", x.lasts(1), 100);
        x.terms(0, 1);
        due("33: in 99", x.lasts(1), 99);
        forced(x, "hungers 9 if day = 101;hungers 0 if not day = 101");
        due("33: in 101", x.lasts(1), -1);
        x.terms(0, 999);
        forced(x, "hungers 9 if day = 1000;hungers 0 if not day = 1000");
        due("33: DAY goes on; beyond 999, too", x.lasts(1), 2);
        forced(x, "hungers 0;hungers 9 if day = 1000 + 98");
        due("33: to DAY 1098", x.lasts(1), 100);
        BrokenBread y = Check.upland(9);
        forced(y, "hungers 8 if fed = 9;hungers 3 if fed < 9");
        due("33: as FED then: 9, 1, 0", y.lasts(0), 2);
        due("33: on paper", y.of(0, 0), 9);
        forced(y, "hungers 9 if mood = 3;hungers 0 if mood < 3");
        y.terms(2, 3);
        due("33: by MOOD", y.lasts(0), 1);
        BrokenBread z = Check.upland(8, 8, 8, 8, 8, 8, 8);
        forced(z, "hungers doer + 1");
        row("33: each as its own number tells", z::lasts, 8, 4, 3, 2, 2, 2, 2, -1);
    }

    private static void fedBy() {
        BrokenBread x = Check.upland(0, 9, 9, 4);
        due("34: f 0: nobody is FED less", x.fedBy(0), 0);
        due("34: f 1: it can't be", x.fedBy(1), -1);
        x.harm(1, 0, 1);
        due("34: f 1: with another one", x.fedBy(1), 1);
        due("34: f 4: FED 4 is not less", x.fedBy(4), 1);
        due("34: f 5: one has none", x.fedBy(5), -1);
        x.harm(3, 1, 1);
        due("34: f 5: anybody at more", x.fedBy(5), 2);
        due("34: f 9: FED 9 is not less", x.fedBy(9), 2);
        due("34: f 10: all", x.fedBy(10), -1);
        x.harm(2, 3, 1);
        due("34: f 10: all, one sits at one", x.fedBy(10), 2);
        due("34: f 11", x.fedBy(11), -1);
        due("34: f below", x.fedBy(-1), -1);
        due("34: no FOLK", joined(0).fedBy(10), 0);
        due("34: one alone", joined(1).fedBy(10), -1);
        due("34: one alone who is not hungry", joined(1).fedBy(5), 0);
        due("34: all seven at one", friends(7).fedBy(10), 1);
        due("34: a star of seven: six", joined(7, 60, 61, 62, 63, 64, 65).fedBy(10), 6);
        due("34: a line of seven", joined(7, 1, 12, 23, 34, 45, 56).fedBy(10), 4);
        BrokenBread y = Check.upland(0, 0, 0, 0, 9, 0, 0);
        for (int two : new int[] {1, 5, 15, 23, 26, 36, 56}) {
            y.harm(two / 10, two % 10, 1);
        }
        due("34: the fewest, not with the last two at a TABLE of their own", y.fedBy(1), 2);
    }

    private static void few() {
        long all = 1000000000000L;
        BrokenBread x = new BrokenBread();
        due("35: k 0", x.few(0, 5), -1);
        due("35: k 21", x.few(21, 5), -1);
        due("35: n below 0", x.few(1, -1), -1);
        due("35: n 100", x.few(1, 100), -1);
        due("35: no guest", x.few(1, 0), all);
        due("35: no guest, k 20", x.few(20, 0), all);
        due("35: one guest", x.few(1, 1), 900000000000L);
        due("35: k beyond n", x.few(20, 1), all);
        x.terms(1, 0);
        due("35: TRIPS 0", x.few(1, 99), all);
        x.terms(1, 10);
        due("35: TRIPS 10: none of none", x.few(1, 0), all);
        due("35: TRIPS 10: of one", x.few(1, 1), 0);
        due("35: TRIPS 10: 19 of 19", x.few(20, 19), all);
        due("35: TRIPS 10: 20 of 20", x.few(20, 20), 0);
        due("35: TRIPS 10: 99", x.few(20, 99), 0);
        for (int trips = 0; trips <= 10; trips++) {
            x.terms(1, trips);
            for (int k = 1; k <= 20; k += k == 1 || k == 19 ? 1 : 17) {
                for (int n : new int[] {0, 1, 12, 13, 19, 20, 98, 99}) {
                    due("35: TRIPS " + trips + ", few(" + k + ", " + n + ")", x.few(k, n), fewOf(k, n, trips));
                }
            }
        }
        x.terms(1, 3);
        due("35: cut, not rounded", x.few(1, 14), 6782230728L);
    }

    /** Guest by guest; all of a hundred could trip, though few() need not know how many beyond k did. */
    private static long fewOf(int k, int n, int trips) {
        long[] parts = new long[101];
        parts[0] = 1000000000000L;
        for (int guest = 0; guest < n; guest++) {
            long[] next = new long[101];
            for (int j = 0; j < 100; j++) {
                next[j] += parts[j] * (10 - trips) / 10;
                next[j + 1] += parts[j] * trips / 10;
            }
            parts = next;
        }
        long together = 0;
        for (int j = 0; j < k; j++) {
            together += parts[j];
        }
        return together;
    }

    private static void compare() {
        BrokenBread x = joined(7, 1);
        due("36: NONE: none, while none is in FORCE", x.compare(-1), 2);
        due("36: no such LAW", x.compare(0), -1);
        due("36: below NONE", x.compare(-2), -1);
        String[] laws = {"counts 1", "bars", "counts 0", "counts 1 if doer = 6", "counts 1;bars if doer = 6", "counts 1 / 0"};
        for (String text : laws) {
            Check.law(x, text);
        }
        row("36: each of six", x::compare, 7, 0, 0, 3, 6, 2, -1);
        x.force(1);
        due("36: NONE, while one is in FORCE", x.compare(-1), 2);
        row("36: in place of that in FORCE", x::compare, 7, 0, 0, 3, 6, 2, -1);
        due("36: that in FORCE stays", x.count(12), 1);
        due("36: and tells", x.largest(0), -1);
        due("36: 0: there is no TABLE", joined(1).compare(-1), 0);
        due("36: no FOLK", joined(0).compare(-1), 0);
    }

    /** On paper, as all is now: what was asked ahead must not be left. */
    private static void askedAgain() {
        BrokenBread x = friends(7);
        forced(x, "bars if mood = 1");
        x.sat(127);
        int[][] told = new int[3][];
        for (int k = 0; k < 3; k++) {
            x.terms(2, k % 2);
            told[k] = new int[] {x.largest(0), x.tables(0), x.newHarms(0), x.leftOut(0), x.chain(0, 6, -1), x.circles(),
                x.bridges(-1), x.doubted(-1), x.fitting(1), x.ask(1, 1), x.fedBy(10), x.of(0, 1), x.of(6, 1)};
        }
        int[] friends = {7, 1, 0, 0, 1, 1, 0, 0, 126, 5, 1, 126, 63};
        int[] none = {-1, -1, -1, 7, -1, 7, 0, 21, 0, -1, -1, 0, 0};
        for (int i = 0; i < friends.length; i++) {
            due("III: as all is now, number " + i, told[0][i], friends[i]);
            due("III: as all is now, all BARRED, number " + i, told[1][i], none[i]);
            due("III: as all is now, again, number " + i, told[2][i], friends[i]);
        }
        BrokenBread line = joined(7, 1, 12, 23, 34, 45, 56);
        for (int k = 0; k < 2; k++) {
            due("27: all of a line, asked again", line.bridges(-1), 6);
            due("27: its first", line.bridges(0), 1);
            due("26: one", line.circles(), 1);
        }
        line.harm(6, 0, 1);
        due("27: none of a ring", line.bridges(-1), 0);
        due("25: the shorter way", line.chain(0, 6, -1), 1);
        due("23: one of seven", line.leftOut(1), 1);
        line.harm(0, 2, 1);
        due("23: nobody, with one of three", line.leftOut(1), 0);
    }

    public static void main(String[] args) {
        largest();
        tables();
        newHarms();
        leftOut();
        seats();
        chains();
        circles();
        sat();
        doubted();
        fitting();
        ask();
        lasts();
        fedBy();
        few();
        compare();
        askedAgain();
        CHECK.close();
    }
}
