/** Promises 20 to 36: what is told on paper. */
public final class PaperTest {
    private static final Check CHECK = new Check("paper");

    private static void due(String what, long got, long want) {
        CHECK.due(what, got, want);
    }

    private static BrokenBread joined(int folks, int... twos) {
        return Check.joined(folks, twos);
    }

    private static void row(String what, int[] want, java.util.function.IntUnaryOperator got) {
        CHECK.row(what, want, got);
    }

    private static void largest() {
        BrokenBread x = joined(7, 12, 23, 13, 45, 56, 46, 60);
        row("20: two of three", new int[] {3, 14, -1}, x::largest);
        due("20: what below", x.largest(-1), -1);
        row("20: no TABLE", new int[] {-1, -1}, joined(3)::largest);
        row("20: no FOLK", new int[] {-1, -1}, joined(0)::largest);
        row("20: the lowest as bits", new int[] {2, 6}, joined(5, 34, 12, 40)::largest);
        row("20: all", new int[] {4, 15}, joined(4, 1, 2, 3, 12, 13, 23)::largest);
    }

    private static void tables() {
        row("21: no FOLK", new int[] {0, -1}, joined(0)::tables);
        row("21: one alone", new int[] {-1, -1}, joined(1)::tables);
        row("21: one left", new int[] {-1, -1, -1}, joined(3, 1)::tables);
        row("21: two", new int[] {1, 0, 0, -1}, joined(2, 10)::tables);
        row("21: numbers as they first come", new int[] {2, 0, 1, 1, 0, -1}, joined(4, 3, 12)::tables);
        row("21: the first row", new int[] {2, 0, 0, 1, 1}, joined(4, 1, 12, 23, 3)::tables);
        row("21: the fewest", new int[] {2, 0, 1, 0, 1, 1, 0}, joined(6, 1, 23, 45, 2, 5, 25, 13, 14, 34)::tables);
        BrokenBread x = joined(2, 1);
        due("21: what below", x.tables(-1), -1);
        due("21: no such FOLK", x.tables(3), -1);
    }

    private static void newHarms() {
        row("22: no FOLK", new int[] {0, -1}, joined(0)::newHarms);
        row("22: one alone", new int[] {-1, -1}, joined(1)::newHarms);
        row("22: three", new int[] {3, 0, 0, 0, -1}, joined(3)::newHarms);
        row("22: four of whom none may", new int[] {2, 0, 0, 1, 1, -1}, joined(4)::newHarms);
        row("22: one is needed", new int[] {1, 0, 1, 0, 1}, joined(4, 2)::newHarms);
        row("22: none is", new int[] {0, 0, 1, 0, 1}, joined(4, 2, 13)::newHarms);
        BrokenBread x = joined(4, 2);
        Check.law(x, "bars if doer = 3 and other = 1");
        x.force(0);
        row("22: one BARS", new int[] {2, 0, 0, 1, 1}, x::newHarms);
        Check.law(x, "bars");
        x.force(1);
        row("22: it can't be", new int[] {-1, -1, -1}, x::newHarms);
        due("22: what below", x.newHarms(-1), -1);
        x.force(-1);
        due("22: no such FOLK", x.newHarms(5), -1);
        row("22: nobody BARS then", new int[] {1, 0, 1, 0, 1}, x::newHarms);
        due("21: it can't be", x.tables(0), -1);
        row("22: behind tables()", new int[] {1, 0, 1, 0, 1}, x::newHarms);
        Check.law(x, "bars if doer = 0 and other = 2");
        x.force(2);
        row("22: the first one BARS", new int[] {2, 0, 0, 1, 1}, x::newHarms);
    }

    private static void leftOut() {
        row("23: no FOLK", new int[] {0, 0, -1}, joined(0)::leftOut);
        row("23: one alone", new int[] {1, 1, -1}, joined(1)::leftOut);
        row("23: nobody", new int[] {0, 0}, joined(2, 10)::leftOut);
        row("23: all", new int[] {3, 7}, joined(3)::leftOut);
        row("23: the lowest as bits", new int[] {1, 1}, joined(3, 1, 12)::leftOut);
        row("23: a star", new int[] {2, 6}, joined(4, 1, 2, 3)::leftOut);
        row("23: one who has none", new int[] {1, 8}, joined(4, 1, 12, 20)::leftOut);
        BrokenBread seven = joined(7, 1, 23, 45, 46, 56);
        row("23: nobody of seven", new int[] {0, 0}, seven::leftOut);
        seven.pardon(0, 1);
        row("23: as all is now", new int[] {2, 3}, seven::leftOut);
        row("23: seven", new int[] {7, 127}, joined(7)::leftOut);
        due("23: what below", joined(2).leftOut(-1), -1);
    }

    private static void seats() {
        BrokenBread x = Check.upland(1, 2, 3, 4);
        x.harm(0, 1, 4);
        x.harm(2, 1, 1);
        x.harm(1, 0, 5);
        x.harm(3, 2, 9);
        row("24: the most first, the lowest of alike ones", new int[] {0, 1, 2, -1}, i -> x.seat(7, i));
        row("24: all", new int[] {2, 0, 1, 3, -1}, i -> x.seat(15, i));
        row("24: one", new int[] {3, -1}, i -> x.seat(8, i));
        row("24: nobody", new int[] {-1}, i -> x.seat(0, i));
        due("24: below 0", x.seat(7, -1), -1);
        due("24: not there", x.seat(17, 0), -1);
        due("24: a set below", x.seat(-1, 0), -1);
        due("24: a set above", x.seat(128, 0), -1);
        due("24: far", x.seat(7, Integer.MAX_VALUE), -1);
        Check.law(x, "counts other;bars");
        x.force(0);
        BrokenBread y = Check.upland(1, 1, 1);
        y.harm(0, 2, 3);
        y.harm(2, 1, 2);
        row("24: by the first one", new int[] {2, 1, 0, -1}, i -> y.seat(7, i));
        row("24: what COUNTS, not the WEIGHT", new int[] {2, 1, 0, -1}, i -> x.seat(7, i));
    }

    private static void chains() {
        BrokenBread x = joined(7, 1, 12, 23, 3, 42, 25);
        due("25: to the next", x.chain(0, 1, -1), 1);
        row("25: it alone", new int[] {1, -1}, i -> x.chain(0, 1, i));
        due("25: how many", x.chain(0, 4, -1), 3);
        row("25: the first row", new int[] {1, 2, 4, -1}, i -> x.chain(0, 4, i));
        row("25: from the other end", new int[] {2, 1, 0, -1}, i -> x.chain(4, 0, i));
        due("25: to oneself", x.chain(6, 6, -1), 0);
        due("25: of nobody", x.chain(6, 6, 0), -1);
        due("25: there is none", x.chain(0, 6, -1), -1);
        due("25: there is none, the first", x.chain(0, 6, 0), -1);
        due("25: not there", x.chain(0, 7, -1), -1);
        due("25: not there", x.chain(-1, 0, -1), -1);
        due("25: oneself not there", x.chain(7, 7, -1), -1);
        due("25: below NONE", x.chain(0, 4, -2), -1);
    }

    private static void circlesAndBridges() {
        due("26: no FOLK", joined(0).circles(), 0);
        due("26: each alone", joined(3).circles(), 3);
        BrokenBread x = joined(7, 1, 12, 20, 32, 54);
        due("26: joined", x.circles(), 3);
        due("27: how many", x.bridges(-1), 2);
        row("27: rising", new int[] {23, 45, -1}, x::bridges);
        due("27: below NONE", x.bridges(-2), -1);
        BrokenBread line = joined(7, 1, 12, 23, 34, 45, 56);
        due("26: one", line.circles(), 1);
        row("27: all of a line", new int[] {1, 12, 23, 34, 45, 56, -1}, line::bridges);
        row("27: by way of the higher one", new int[] {2, 12, -1}, joined(3, 2, 12)::bridges);
        row("27: by way of the highest one", new int[] {3, 13, 23, -1}, joined(4, 3, 13, 23)::bridges);
        BrokenBread ring = joined(4, 1, 12, 23, 30);
        due("27: none in a ring", ring.bridges(-1), 0);
        due("27: no first", ring.bridges(0), -1);
    }

    private static void sat() {
        BrokenBread x = joined(4, 1, 12);
        due("28: nobody", x.sat(0), -1);
        due("28: one", x.sat(4), -1);
        due("28: below", x.sat(-1), -1);
        due("28: above", x.sat(128), -1);
        due("28: not there", x.sat(24), -2);
        due("28: status", x.status(), -2);
        due("30: none", x.doubted(-1), 0);
        due("28: once", x.sat(7), 1);
        due("30: one two", x.doubted(-1), 1);
        row("30: it", new int[] {2, -1}, x::doubted);
        due("28: twice", x.sat(7), 2);
        due("30: a two once", x.doubted(-1), 1);
        due("28: thrice", x.sat(14), 3);
        row("30: rising", new int[] {2, 13, 23, -1}, x::doubted);
        due("30: below NONE", x.doubted(-2), -1);
        x.harm(0, 2, 1);
        row("30: as all is now", new int[] {13, 23, -1}, x::doubted);
        for (int k = 4; k <= 6; k++) {
            due("28: more", x.sat(3), k);
        }
        due("28: a seventh", x.sat(3), -5);
        due("28: -2 comes ahead of -5", x.sat(24), -2);
        due("28: how often", x.count(3), 6);
        due("29: how often there was", x.forget(), 6);
        due("29: it is not told by status", x.status(), -2);
        due("29: none then", x.count(3), 0);
        due("30: none then", x.doubted(-1), 0);
        due("29: none", x.forget(), 0);
        due("28: again", x.sat(3), 1);
        BrokenBread seven = joined(7);
        due("28: all seven", seven.sat(127), 1);
        due("30: all twos of seven", seven.doubted(-1), 21);
        due("30: the first", seven.doubted(0), 1);
        due("30: the last", seven.doubted(20), 56);
    }

    private static void fittingAndAsk() {
        BrokenBread x = joined(6, 1, 12, 20, 32, 34);
        due("31: of nobody: all", x.fitting(0), 63);
        due("31: with one", x.fitting(4), 11);
        due("31: with two", x.fitting(3), 4);
        due("31: with one who has none", x.fitting(32), 0);
        due("31: none of it itself", x.fitting(7), 0);
        due("31: not there", x.fitting(64), -1);
        due("31: above", x.fitting(128), -1);
        due("31: below", x.fitting(-1), -1);
        due("31: no FOLK", joined(0).fitting(0), 0);
        BrokenBread y = joined(2, 1);
        due("31: the first one", y.fitting(2), 1);
        y.pardon(0, 1);
        due("31: as all is now", y.fitting(2), 0);
        due("32: half of all", x.ask(0, 0), 2);
        due("32: how many", x.ask(0, 1), 3);
        due("32: of three, the lowest of alike ones", x.ask(4, 0), 0);
        due("32: how many", x.ask(4, 1), 1);
        due("32: of one", x.ask(3, 0), 0);
        due("32: how many", x.ask(3, 1), 1);
        due("32: nobody is FITTING", x.ask(32, 0), -1);
        due("32: not there", x.ask(64, 0), -1);
        due("32: above", x.ask(128, 0), -1);
        due("32: below", x.ask(-1, 0), -1);
        due("32: no such what", x.ask(0, 2), -1);
        due("32: what below", x.ask(0, -1), -1);
        due("32: no FOLK", joined(0).ask(0, 0), -1);
    }

    private static void lasts() {
        BrokenBread x = Check.upland(9, 0, 3);
        due("33: by 1 a DAY", x.lasts(0), 9);
        due("33: now", x.lasts(1), 0);
        due("33: not there", x.lasts(3), -1);
        due("33: below", x.lasts(-1), -1);
        Check.law(x, "hungers 0;hungers 1 if day = 999 + 99");
        Check.law(x, "hungers fed / 2 + 1");
        Check.law(x, "hungers 0;hungers 9 if day = 1000");
        Check.law(x, "hungers 0;hungers 9 if day = 99");
        Check.law(x, "hungers 0;hungers 9 if day = 100");
        x.force(1);
        due("33: as FED then", x.lasts(0), 3);
        x.force(0);
        due("33: not in 100 DAYS", x.lasts(2), -1);
        x.terms(0, 995);
        x.force(2);
        due("33: beyond 999, too", x.lasts(2), 6);
        x.terms(0, 0);
        x.force(3);
        due("33: in 100 DAYS", x.lasts(2), 100);
        x.force(4);
        due("33: in 101 it would be", x.lasts(2), -1);
        due("33: on paper", x.of(2, 0), 3);
        due("33: on paper, DAY", x.count(13), 0);
    }

    private static void fedBy() {
        BrokenBread x = Check.upland(0, 1, 2, 3, 4, 9);
        due("34: nobody", x.fedBy(0), 0);
        due("34: it can't be", x.fedBy(1), -1);
        x.harm(0, 5, 1);
        due("34: with one who is FED", x.fedBy(1), 1);
        x.harm(1, 5, 1);
        due("34: one at two of them", x.fedBy(2), 2);
        x.harm(0, 1, 1);
        due("34: one larger", x.fedBy(2), 1);
        x.harm(2, 3, 1);
        due("34: two", x.fedBy(4), 2);
        due("34: one has none", x.fedBy(5), -1);
        x.harm(4, 3, 1);
        due("34: anybody at more", x.fedBy(5), 3);
        due("34: f 9", x.fedBy(9), 3);
        due("34: f 10", x.fedBy(10), 3);
        due("34: above", x.fedBy(11), -1);
        due("34: below", x.fedBy(-1), -1);
        due("34: no FOLK", joined(0).fedBy(10), 0);
        BrokenBread seven = joined(7, 1, 23, 45, 46, 56);
        due("34: seven", seven.fedBy(6), 3);
        seven.pardon(0, 1);
        due("34: as all is now", seven.fedBy(6), -1);
        due("34: all at one", joined(3, 1, 2, 12).fedBy(10), 1);
    }

    private static void few() {
        BrokenBread x = new BrokenBread();
        due("35: no guest", x.few(1, 0), 1000000000000L);
        due("35: none of one", x.few(1, 1), 900000000000L);
        due("35: one of one", x.few(2, 1), 1000000000000L);
        due("35: none of three", x.few(1, 3), 729000000000L);
        due("35: at most one of three", x.few(2, 3), 972000000000L);
        x.terms(1, 3);
        due("35: TRIPS 3", x.few(1, 12), 13841287201L);
        due("35: cut", x.few(1, 13), 9688901040L);
        due("35: cut again", x.few(1, 14), 6782230728L);
        x.terms(1, 10);
        due("35: all trip", x.few(20, 19), 1000000000000L);
        due("35: all trip, too many", x.few(20, 20), 0);
        x.terms(1, 0);
        due("35: nobody trips", x.few(1, 99), 1000000000000L);
        due("35: k 0", x.few(0, 1), -1);
        due("35: k 21", x.few(21, 1), -1);
        due("35: n below", x.few(1, -1), -1);
        due("35: n 100", x.few(1, 100), -1);
    }

    private static void compare() {
        BrokenBread x = joined(4, 1, 12, 20);
        Check.law(x, "counts 1");
        Check.law(x, "bars");
        Check.law(x, "counts 0 if doer + other = 1");
        due("36: all", x.compare(0), 4);
        due("36: no TABLE", x.compare(1), 0);
        due("36: two", x.compare(2), 2);
        due("36: without", x.compare(-1), 3);
        x.force(1);
        due("36: in place of that in FORCE", x.compare(-1), 3);
        due("36: another one", x.compare(0), 4);
        due("36: that in FORCE stays", x.largest(0), -1);
        due("36: no such LAW", x.compare(3), -1);
        due("36: below NONE", x.compare(-2), -1);
        due("36: no FOLK", joined(0).compare(-1), 0);
    }

    /** Each asks the LAW in FORCE, and what stands now, whatever was asked ahead of it. */
    private static void asksAnew() {
        BrokenBread x = joined(4, 1, 12, 20);
        Check.law(x, "bars;hungers 9;counts 9;feeds 0");
        String[] all = {"compare", "seasons"};
        for (String ahead : all) {
            java.util.function.IntSupplier[] asked = {() -> x.of(0, 1), () -> x.of(0, 2), () -> x.asks(0, 1, 4),
                () -> x.asks(0, 1, 3), () -> x.asks(0, 1, 2), () -> x.largest(0), () -> x.tables(0), () -> x.newHarms(0),
                () -> x.leftOut(1), () -> x.seat(6, 0), () -> x.chain(0, 2, -1), x::circles, () -> x.bridges(-1),
                () -> x.doubted(-1), () -> x.fitting(1), () -> x.ask(1, 1), () -> x.lasts(0), () -> x.fedBy(10),
                () -> x.feast(7), x::pass};
            int[] want = {6, 1, 1, 0, 2, 3, -1, 1, 8, 2, 1, 2, 0, 0, 6, 1, 5, -1, 3, 0};
            for (int k = 0; k < asked.length; k++) {
                if (ahead.equals("compare")) {
                    due("36: no TABLE", x.compare(0), 0);
                } else {
                    x.force(0);
                    x.seasons(5, 40);
                    x.force(-1);
                }
                due("behind " + ahead + ", number " + k, asked[k].getAsInt(), want[k]);
            }
            due("a pass, undone", x.undo(), 3);
            due("a feast, undone", x.undo(), 1);
        }
    }

    public static void main(String[] args) {
        largest();
        tables();
        newHarms();
        leftOut();
        seats();
        chains();
        circlesAndBridges();
        sat();
        fittingAndAsk();
        lasts();
        fedBy();
        few();
        compare();
        asksAnew();
        CHECK.close();
    }
}
