/**
 * Boundary cases of promises 1 to 5, 14 to 19 and 37 to 42, one sentence of the document after the other; what
 * stands in front of a colon is the promise, or the part of the Terms.
 */
public final class EdgesOfDeedsTest {
    private static final Check CHECK = new Check("edges of deeds");

    private static void due(String what, long got, long want) {
        CHECK.due(what, got, want);
    }

    private static void forced(BrokenBread x, String text) {
        x.force(Check.law(x, text));
    }

    private static void emptyUpland() {
        BrokenBread x = new BrokenBread();
        due("1: no FOLK", x.count(0), 0);
        due("1: no HARMS", x.count(1), 0);
        due("1: nobody has FED 0", x.count(2), 0);
        due("1: SAT nothing", x.count(3), 0);
        due("1: no LAWS", x.count(4), 0);
        due("1: nothing can be undone", x.count(5), 0);
        due("1: an empty TAPE", x.count(6), 0);
        for (int what = 7; what <= 11; what++) {
            due("1: no call was REFUSED", x.count(what), 0);
        }
        due("II: NONE in FORCE at first", x.count(12), -1);
        due("I: DAY 0 at first", x.count(13), 0);
        due("I: TRIPS 1 at first", x.count(14), 1);
        due("I: MOOD 0 at first", x.count(15), 0);
        due("42: 0 ahead of any", x.status(), 0);
        due("9: 0 ahead of any", x.crumbs(), 0);
        due("12: NONE without", x.fault(), -1);
        due("13: NONE", x.stopped(), -1);
        due("18: a DAY without FOLK", x.pass(), 0);
        due("19: undone", x.undo(), 3);
        due("40: IMAGE 0 was not kept", x.back(0), -2);
        due("40: IMAGE 1 was not kept", x.back(1), -2);
    }

    /** Two objects have nothing in common. */
    private static void twoObjects() {
        BrokenBread x = Check.upland(1, 2);
        BrokenBread y = new BrokenBread();
        x.harm(0, 1, 3);
        forced(x, "bars");
        x.image(0);
        x.seasons(1, 1);
        due("1: empty beside another one, FOLK", y.count(0), 0);
        due("1: empty beside another one, LAWS", y.count(4), 0);
        due("1: empty beside another one, IMAGES", y.back(0), -2);
        due("1: empty beside another one, SEASONS", y.drawn(0, -1), -1);
    }

    private static void folkAndFed() {
        BrokenBread x = new BrokenBread();
        due("2: -1 (FED) below 0", x.folk(-1), -1);
        due("2: -1 (FED) above 9", x.folk(10), -1);
        due("2: none came", x.count(0), 0);
        int[] fed = {0, 9, 1, 8, 5, 0, 9};
        for (int p = 0; p < 7; p++) {
            due("2: the number", x.folk(fed[p]), p);
            due("2: how many", x.count(0), p + 1);
        }
        due("I: 7 at most", x.folk(0), -5);
        due("I: 7 at most, with the most FED", x.folk(9), -5);
        due("I: -1 ahead of -5", x.folk(-1), -1);
        for (int p = 0; p < 7; p++) {
            due("I: FED 0 .. 9", x.of(p, 0), fed[p]);
        }
        due("3: NONE for the eighth", x.of(7, 0), -1);
        due("41: how many have FED 0", x.count(2), 2);
        x.harm(6, 0, 9);
        x.harm(6, 5, 1);
        x.harm(0, 6, 1);
        due("3: with whom the seventh MAY sit", x.of(6, 1), 33);
        due("3: HARMS it did", x.of(6, 3), 2);
        due("3: HARMS done to it", x.of(6, 4), 1);
        for (int p = 0; p < 6; p++) {
            x.harm(p, 6, 2);
        }
        due("3: all six did", x.of(6, 4), 6);
        due("3: with all six", x.of(6, 1), 63);
    }

    /** One beyond the FOLK there are, for each what, also by a LAW by which all MAY sit with all. */
    private static void folkNotThere() {
        BrokenBread x = Check.upland(3, 4, 5);
        x.harm(0, 1, 2);
        for (int law = -1; law < 1; law++) {
            for (int what = 0; what <= 4; what++) {
                for (int p : new int[] {3, 6, 7, -1, -2}) {
                    due("3: NONE for " + p + ", what " + what + ", LAW " + law, x.of(p, what), -1);
                    due("4: NONE, one is not there: " + p + ", what " + what, x.asks(p, 0, what), -1);
                    due("4: NONE, the other one is not there: " + p + ", what " + what, x.asks(0, p, what), -1);
                }
                for (int p = 0; p < 3; p++) {
                    due("4: NONE, one FOLK alone: " + p + ", what " + what, x.asks(p, p, what), -1);
                }
            }
            forced(x, "counts 1");
        }
        for (int p = 0; p < 3; p++) {
            due("3: with whom it MAY sit, never itself: " + p, x.of(p, 1), 7 & ~(1 << p));
        }
        due("II: at: never itself", Check.orders(x, "pass if at 0 = 6 and at 1 = 5 and at 2 = 3"), 1);
    }

    /** A new one of the FOLK has no HARM, whatever was ahead of it. */
    private static void newFolkIsUnhurt() {
        BrokenBread x = Check.upland(4, 4);
        x.image(0);
        x.folk(4);
        x.harm(0, 2, 5);
        x.harm(2, 1, 6);
        x.back(0);
        due("40: gone", x.of(2, 0), -1);
        due("2: another one", x.folk(8), 2);
        due("I: no HARM (at first)", x.asks(0, 2, 0) + x.asks(2, 1, 0), 0);
        due("I: no DAY", x.asks(0, 2, 1), -1);
        due("I: its own FED", x.of(2, 0), 8);
        due("I: HARMS", x.count(1), 0);
    }

    private static void terms() {
        BrokenBread x = new BrokenBread();
        int[] most = {999, 10, 9};
        int[] first = {0, 1, 0};
        for (int what = 0; what < 3; what++) {
            due("5: what it was at first", x.terms(what, most[what]), first[what]);
            due("I: the highest", x.count(13 + what), most[what]);
            due("5: above", x.terms(what, most[what] + 1), -1);
            due("5: it stays", x.count(13 + what), most[what]);
            due("5: what it was", x.terms(what, 0), most[what]);
            due("5: below 0", x.terms(what, -1), -1);
            due("I: the lowest", x.count(13 + what), 0);
            due("5: the same again", x.terms(what, 0), 0);
        }
        due("5: no such TERM", x.terms(3, 0), -1);
        due("5: no such TERM below", x.terms(-1, 0), -1);
        BrokenBread y = Check.upland(5, 5);
        y.harm(0, 1, 1);
        y.terms(2, 0);
        due("19: terms() that changes nothing ends it, too", y.undo(), -3);
    }

    private static void harms() {
        BrokenBread x = Check.upland(1, 1);
        due("15: WEIGHT 0", x.harm(0, 1, 0), -1);
        due("15: WEIGHT 1 (0: none was)", x.harm(0, 1, 1), 0);
        due("15: WEIGHT 9", x.harm(0, 1, 9), 1);
        due("15: WEIGHT 10", x.harm(0, 1, 10), -1);
        due("15: -3 it has that WEIGHT", x.harm(0, 1, 9), -3);
        due("III: a WEIGHT other than it has", x.harm(0, 1, 8), 9);
        due("15: the other way there was none", x.harm(1, 0, 8), 0);
        due("15: oneself", x.harm(0, 0, 1), -1);
        due("15: oneself comes ahead of no such FOLK", x.harm(9, 9, 1), -1);
        due("15: the WEIGHT comes ahead of no such FOLK", x.harm(0, 9, 10), -1);
        due("15: no such FOLK, the doer", x.harm(2, 0, 1), -2);
        due("15: no such FOLK, the other one", x.harm(0, 2, 1), -2);
        BrokenBread y = Check.upland(1, 1);
        y.terms(0, 999);
        y.harm(0, 1, 3);
        due("I: on the last DAY", y.asks(0, 1, 1), 999);
        y.terms(0, 0);
        due("I: its DAY stays", y.asks(0, 1, 1), 999);
        Check.putBytes(y, 0, 1, 3);
        y.row();
        due("I: the latest time, by a ROW of the same WEIGHT", y.asks(0, 1, 1), 0);
        y.terms(0, 7);
        due("15: that WEIGHT", y.harm(0, 1, 3), -3);
        due("I: a REFUSED one is no time", y.asks(0, 1, 1), 0);
        y.harm(0, 1, 4);
        due("I: the latest time, by harm()", y.asks(0, 1, 1), 7);
        y.harm(0, 1, 1);
        due("4: the DAY of a HARM of WEIGHT 1", y.asks(0, 1, 1), 7);
        y.harm(0, 1, 4);
        y.pardon(0, 1);
        due("4: DAY NONE: none", y.asks(0, 1, 1), -1);
        due("15: any, if there was none", y.harm(0, 1, 4), 0);
    }

    private static void feasts() {
        BrokenBread x = Check.upland(0, 6, 7, 8, 9, 9, 9);
        due("16: of nobody", x.feast(0), -3);
        due("16: of one", x.feast(1), -3);
        due("16: of two who may not", x.feast(3), -3);
        for (int p = 0; p < 7; p++) {
            for (int q = p + 1; q < 7; q++) {
                x.harm(p, q, 1);
            }
        }
        due("16: of all seven, the set 127", x.feast(127), 7);
        int[] fed = {2, 8, 9, 9, 9, 9, 9};
        for (int p = 0; p < 7; p++) {
            due("III: FED 9 at most", x.of(p, 0), fed[p]);
        }
        due("16: 128", x.feast(128), -1);
        due("16: below 0", x.feast(-1), -1);
        due("16: of one of seven", x.feast(64), -3);
        x.pardon(5, 6);
        due("16: two of seven may not", x.feast(127), -3);
        due("16: without one of them", x.feast(63), 6);
        BrokenBread y = Check.upland(0, 0, 0, 0, 0, 0);
        due("16: -2 one of it is not there", y.feast(64), -2);
        due("16: -2 comes ahead of -3", y.feast(65), -2);
        due("16: -3 of those there", y.feast(63), -3);
        BrokenBread z = Check.upland(0, 3, 5);
        z.harm(0, 1, 1);
        forced(z, "feeds 9 if fed = 0;feeds 0 - 5 if doer = 1");
        due("16: two", z.feast(3), 2);
        due("III: by 9", z.of(0, 0), 9);
        due("III: by 0 at least", z.of(1, 0), 3);
    }

    private static void pardons() {
        BrokenBread x = Check.upland(1, 1, 1, 1, 1, 1, 1);
        x.harm(6, 5, 9);
        due("17: the other way there is none", x.pardon(5, 6), -3);
        due("17: its WEIGHT", x.pardon(6, 5), 9);
        due("17: -3 there is none", x.pardon(6, 5), -3);
        due("17: oneself", x.pardon(6, 6), -1);
        due("17: oneself comes ahead of no such FOLK", x.pardon(7, 7), -1);
        due("17: no such FOLK, whom", x.pardon(6, 7), -2);
        due("17: no such FOLK, who", x.pardon(7, 6), -2);
        x.harm(0, 1, 1);
        due("17: WEIGHT 1", x.pardon(0, 1), 1);
        due("41: HARMS", x.count(1), 0);
    }

    private static void days() {
        BrokenBread x = Check.upland(9, 1, 0);
        due("18: how many have FED 0 then", x.pass(), 2);
        due("III: 0 at least", x.of(2, 0), 0);
        due("III: to 0", x.of(1, 0), 0);
        forced(x, "hungers 9");
        due("18: by 9", x.pass(), 3);
        due("III: 0 at least", x.of(0, 0), 0);
        x.terms(0, 998);
        due("18: the last DAY can be reached", x.pass(), 3);
        due("III: it is 999", x.count(13), 999);
        due("III: at 999 it can't be", x.pass(), -3);
        due("III: it stays 999", x.count(13), 999);
        due("19: the DAY to 999 is undone", x.undo(), 3);
        due("III: it is 998 again", x.count(13), 998);
        due("18: again", x.pass(), 3);
        BrokenBread y = Check.upland(9, 8);
        forced(y, "hungers day");
        y.pass();
        due("III: all asked as it was ahead: on DAY 0", y.of(0, 0), 9);
        y.pass();
        due("III: on DAY 1", y.of(0, 0), 8);
        due("III: all of them", y.of(1, 0), 7);
    }

    private static void undone() {
        BrokenBread x = Check.upland(9, 9);
        due("19: -3 there is none", x.undo(), -3);
        for (int k = 1; k <= 15; k++) {
            x.pass();
        }
        due("41: 15 can be undone", x.count(5), 15);
        x.pass();
        due("41: 16 can be undone", x.count(5), 16);
        x.pass();
        due("19: 16 are kept", x.count(5), 16);
        x.harm(0, 1, 4);
        due("19: 16 are kept, the oldest is not", x.count(5), 16);
        due("19: 0 a harm", x.undo(), 0);
        for (int k = 0; k < 15; k++) {
            due("19: 3 a DAY", x.undo(), 3);
        }
        due("19: -3 the 17th", x.undo(), -3);
        due("19: two DAYS stay", x.count(13), 2);
        due("19: FED stays", x.of(0, 0), 7);
        due("41: none can be undone", x.count(5), 0);
        x.harm(0, 1, 4);
        due("19: one more behind that", x.count(5), 1);
        due("19: undone", x.undo(), 0);
        due("19: no HARM then", x.asks(0, 1, 0), 0);
        due("19: an undo is not undone", x.undo(), -3);
    }

    private static void undoneOfEachKind() {
        BrokenBread x = Check.upland(8, 1);
        x.terms(0, 998);
        x.harm(0, 1, 9);
        x.feast(3);
        due("19: 1 a feast", x.undo(), 1);
        due("19: FED as it was, not less by 2", x.of(0, 0), 8);
        due("19: FED as it was", x.of(1, 0), 1);
        x.pass();
        x.pass();
        due("19: a REFUSED pass() is none", x.count(5), 2);
        x.harm(0, 1, 9);
        x.feast(1);
        x.pardon(1, 0);
        due("19: REFUSED ones are none", x.count(5), 2);
        due("19: 3 a DAY", x.undo(), 3);
        due("19: FED 0 as it was", x.of(1, 0), 1);
        due("19: DAY as it was", x.count(13), 998);
        x.pardon(0, 1);
        due("19: 2 a pardon", x.undo(), 2);
        due("19: its WEIGHT", x.asks(0, 1, 0), 9);
        due("19: its DAY", x.asks(0, 1, 1), 998);
        due("19: 0 a harm", x.undo(), 0);
        due("19: none", x.asks(0, 1, 1), -1);
        due("19: -3", x.undo(), -3);
        undoneOfSeven();
        BrokenBread y = Check.upland(9, 9);
        y.harm(0, 1, 1);
        y.harm(1, 0, 1);
        due("19: by ORDERS, too: 18 of them", Check.orders(y, "pass times 18"), 18);
        due("19: 16 are kept", y.count(5), 16);
        due("19: REFUSED ORDERS leave what was kept", Check.orders(y, "feast 3 times 20;feast 0"), -3);
        due("19: 16 are kept", y.count(5), 16);
        for (int k = 17; k >= 2; k--) {
            due("19: a DAY", y.undo(), 3);
            due("19: DAY", y.count(13), k);
        }
        due("19: no more", y.undo(), -3);
    }

    private static void undoneOfSeven() {
        BrokenBread x = Check.upland(9, 9, 9, 9, 9, 9, 9);
        x.harm(6, 5, 3);
        x.harm(5, 6, 4);
        x.pass();
        x.pass();
        x.harm(6, 5, 8);
        x.pass();
        x.pardon(6, 5);
        x.feast(96);
        int[][] want = {{1, 0, 4, -1, 3, 6}, {2, 8, 4, 2, 3, 6}, {3, 8, 4, 2, 2, 7}, {0, 3, 4, 0, 2, 7}, {3, 3, 4, 0, 1, 8},
            {3, 3, 4, 0, 0, 9}, {0, 3, 0, 0, 0, 9}, {0, 0, 0, -1, 0, 9}};
        for (int[] w : want) {
            due("19: which", x.undo(), w[0]);
            due("19: the WEIGHT", x.asks(6, 5, 0), w[1]);
            due("19: the other WEIGHT", x.asks(5, 6, 0), w[2]);
            due("19: the DAY of the HARM", x.asks(6, 5, 1), w[3]);
            due("19: DAY", x.count(13), w[4]);
            due("19: FED of the seventh", x.of(6, 0), w[5]);
            due("19: FED of the first", x.of(0, 0), w[5]);
        }
        due("19: -3", x.undo(), -3);
    }

    private static void endsOfUndo() {
        BrokenBread x = Check.upland(5, 5);
        x.image(0);
        x.harm(0, 1, 1);
        x.row();
        x.folk(-1);
        x.terms(9, 9);
        x.back(1);
        due("19: REFUSED ones end nothing", x.count(5), 1);
        Check.putBytes(x, 7);
        x.row();
        due("19: row() of a CRUMB alone ends it", x.undo(), -3);
        x.pass();
        x.folk(1);
        due("19: folk() ends it", x.undo(), -3);
        x.pass();
        x.terms(1, 5);
        due("19: terms() ends it", x.undo(), -3);
        x.pass();
        x.back(0);
        due("19: back() ends it", x.undo(), -3);
        x.pass();
        x.image(0);
        Check.law(x, "bars");
        x.force(0);
        x.sat(3);
        x.forget();
        x.seasons(0, 60);
        Check.orders(x, "pass if 1 = 2");
        due("19: others do not", x.count(5), 1);
        due("19: behind them", x.undo(), 3);
        due("19: the LAW in FORCE is not undone", x.count(12), 0);
    }

    private static void force() {
        BrokenBread x = Check.upland(1, 1);
        due("14: -2 there is none", x.force(0), -2);
        due("14: NONE: none", x.force(-1), -1);
        due("42: that is no refusal", x.status(), 0);
        due("41: nor counted as one", x.count(7), 0);
        for (int k = 0; k < 6; k++) {
            Check.law(x, "counts " + k);
        }
        due("14: the last one", x.force(5), -1);
        due("14: it tells", x.asks(0, 1, 2), 5);
        due("14: the first one", x.force(0), 5);
        due("14: it tells", x.asks(0, 1, 2), 0);
        due("14: -2 above", x.force(6), -2);
        due("14: -2 below NONE", x.force(-2), -2);
        due("14: the same again", x.force(0), 0);
        due("14: none again", x.force(-1), 0);
        due("14: no CLAUSE", x.asks(0, 1, 2), 0);
    }

    private static void mayOfTwo() {
        String sentence = "II: MAY, if what COUNTS is more than 0 together, and neither BARS the other one";
        int[][] rows = {{0, 0, 0}, {1, 0, 1}, {0, 1, 1}, {9, 9, 1}};
        for (int[] r : rows) {
            BrokenBread x = Check.upland(1, 1);
            Check.putBytes(x, 0, 1, r[0], 1, 0, r[1]);
            x.row();
            due(sentence, x.asks(0, 1, 4), r[2]);
            due(sentence + ", the other way", x.asks(1, 0, 4), r[2]);
            forced(x, "bars if doer = 0");
            due(sentence + ", one BARS", x.asks(0, 1, 4) + x.asks(1, 0, 4), 0);
            forced(x, "bars if doer = 1");
            due(sentence + ", the other one BARS", x.asks(0, 1, 4) + x.asks(1, 0, 4), 0);
            due("4: whether the one BARS the other", x.asks(1, 0, 3) * 10 + x.asks(0, 1, 3), 10);
            forced(x, "counts weight - 9");
            due(sentence + ", below 0 is 0", x.asks(0, 1, 4), 0);
        }
    }

    private static void seasons() {
        BrokenBread x = new BrokenBread();
        due("37: -3 there are no FOLK", x.seasons(0, 1), -3);
        due("37: -1 comes ahead of -3", x.seasons(0, 0), -1);
        x.folk(9);
        due("38: NONE ahead of any", x.drawn(0, -1), -1);
        due("IV: the SEED 0", x.seasons(0, 1), 0);
        due("38: one DAY", x.drawn(0, -1), 8);
        due("IV: the SEED 1,000,000", x.seasons(1000000, 8), 0);
        due("38: eight DAYS", x.drawn(0, -1), 1);
        due("IV: n 60", x.seasons(5, 60), 1);
        due("38: FED 0", x.drawn(0, -1), 0);
        due("37: the SEED below", x.seasons(-1, 1), -1);
        due("37: the SEED above", x.seasons(1000001, 1), -1);
        due("37: n 0", x.seasons(1, 0), -1);
        due("37: n 61", x.seasons(1, 61), -1);
        due("38: the latest stay", x.drawn(0, -1), 0);
        x.terms(0, 999);
        due("IV: at DAY 999 it ends", x.seasons(5, 60), 0);
        due("38: as it is now", x.drawn(0, -1), 9);
        x.terms(0, 995);
        due("IV: at DAY 999 it ends, in four DAYS", x.seasons(5, 60), 0);
        due("38: four DAYS", x.drawn(0, -1), 5);
        due("IV: on paper", x.count(13), 995);
        due("38: one alone", x.drawn(0, 0), -1);
        due("38: the other one is not there", x.drawn(0, 1), -1);
        due("38: no such FOLK", x.drawn(1, -1), -1);
    }

    /** The only HARM (WEIGHT 0: none) behind a single time, of FOLK who had none. */
    private static void oneDrawn(int seed, int folks, int one, int other, int weight) {
        BrokenBread x = Check.joined(folks);
        x.seasons(seed, 1);
        int found = 0;
        for (int p = 0; p < folks; p++) {
            for (int q = 0; q < folks; q++) {
                found += p != q && x.drawn(p, q) > 0 ? 1 : 0;
            }
        }
        String what = "IV: s becomes (s times 1103 and 12345) modulo 1,000,003, SEED " + seed + " of " + folks;
        due(what + ", HARMS", found, weight > 0 ? 1 : 0);
        if (weight > 0) {
            due(what + ", its WEIGHT", x.drawn(one, other), weight);
        }
        for (int p = 0; p < folks; p++) {
            due(what + ", FED", x.drawn(p, -1), 4);
        }
    }

    private static void wrapOfDraws() {
        oneDrawn(999999, 2, 1, 0, 1);
        oneDrawn(999999, 5, 3, 0, 1);
        oneDrawn(999999, 7, 2, 1, 1);
        oneDrawn(999997, 7, 1, 5, 7);
        oneDrawn(999943, 7, 6, 0, 9);
        oneDrawn(999935, 7, 2, 3, 9);
        oneDrawn(0, 6, 3, 5, 8);
        oneDrawn(0, 7, 4, 3, 8);
        oneDrawn(1000000, 7, 6, 6, 0);
        oneDrawn(1000000, 1, 0, 0, 0);
        BrokenBread x = Check.joined(4);
        x.harm(0, 2, 9);
        x.seasons(1000000, 1);
        due("IV: at 3 the first PARDONS what it did to the second", x.drawn(0, 2), 0);
        due("IV: at 3, the other way", x.drawn(2, 0), 0);
        BrokenBread y = Check.joined(4);
        y.harm(2, 0, 9);
        y.seasons(1000000, 1);
        due("IV: at 3 what the second did to the first stays", y.drawn(2, 0), 9);
    }

    /** SEED 122 of two: 1 HARMS 0 by 5, then there is a FEAST of both, if the HARM is old enough. */
    private static void harmsOfDraws() {
        int[][] rows = {{5, 5}, {4, 3}, {9, 3}};
        for (int[] r : rows) {
            BrokenBread x = Check.joined(2);
            x.terms(0, 10);
            x.harm(1, 0, r[0]);
            x.terms(0, 20);
            forced(x, "counts age - 2");
            x.seasons(122, 2);
            due("IV: HARMS, if it can; one that has that WEIGHT keeps its DAY, " + r[0], x.drawn(0, -1), r[1]);
            due("IV: its WEIGHT, " + r[0], x.drawn(1, 0), 5);
        }
        BrokenBread y = Check.joined(2);
        forced(y, "hungers 0;counts age - 1");
        y.seasons(1432, 3);
        due("IV: 0 HARMS 1 by 1 on DAY 0, on DAY 1 it can't, the FEAST is on DAY 2", y.drawn(0, -1), 7);
        due("IV: the WEIGHT is that of DAY 0", y.drawn(0, 1), 1);
        y.seasons(109, 3);
        due("IV: 0 HARMS 1 by 3 on DAY 0, by 7 on DAY 1, on DAY 2 that is one DAY old", y.drawn(0, -1), 5);
        due("IV: the WEIGHT is that of DAY 1", y.drawn(0, 1), 7);
        due("IV: on paper", y.count(1), 0);
    }

    /** drawn() knows the FOLK that the latest SEASONS had, not those there are now. */
    private static void folkOfDraws() {
        BrokenBread x = Check.upland(9, 9);
        x.image(0);
        x.folk(9);
        x.harm(2, 0, 4);
        x.harm(0, 2, 5);
        x.terms(0, 999);
        due("37: at DAY 999", x.seasons(1, 1), 0);
        x.folk(9);
        due("38: one who came later", x.drawn(3, -1), -1);
        due("38: to one who came later", x.drawn(0, 3), -1);
        due("38: of one who came later", x.drawn(3, 0), -1);
        x.back(0);
        due("40: two are there", x.count(0), 2);
        due("38: behind the latest SEASONS there are three", x.drawn(2, -1), 9);
        due("38: the HARM of the third", x.drawn(2, 0), 4);
        due("38: the HARM to the third", x.drawn(0, 2), 5);
    }

    private static void images() {
        BrokenBread x = Check.upland(5, 5);
        due("39: -1 below", x.image(-1), -1);
        due("39: -1 above", x.image(2), -1);
        due("40: -1 below", x.back(-1), -1);
        due("40: -1 above", x.back(2), -1);
        due("40: -2 it was not kept", x.back(0), -2);
        due("40: -2 it was not kept", x.back(1), -2);
        due("39: IMAGE 0", x.image(0), 0);
        due("40: -2 the other one was not", x.back(1), -2);
        x.harm(0, 1, 1);
        due("39: IMAGE 1", x.image(1), 0);
        x.harm(0, 1, 2);
        due("40: BACK to 0", x.back(0), 0);
        due("40: as it was then", x.count(1), 0);
        due("40: BACK to 1", x.back(1), 0);
        due("40: as it was then", x.asks(0, 1, 0), 1);
        due("40: BACK to it again", x.back(1), 0);
        due("39: kept anew", x.image(0), 0);
        x.pardon(0, 1);
        due("40: BACK to 0", x.back(0), 0);
        due("40: as it was the latest time", x.asks(0, 1, 0), 1);
    }

    /** An IMAGE of an empty upland, and one that is full. */
    private static void imagesOfMostAndNothing() {
        BrokenBread x = new BrokenBread();
        x.image(0);
        for (int p = 0; p < 7; p++) {
            x.folk(p);
        }
        for (int k = 0; k < 6; k++) {
            x.sat(3);
            Check.law(x, "counts " + k);
        }
        x.force(5);
        x.terms(0, 999);
        x.terms(1, 10);
        x.terms(2, 9);
        x.harm(5, 6, 9);
        x.image(1);
        x.folk(1);
        int[] empty = {0, 0, 0, 0, 0, 0};
        int[] full = {7, 1, 1, 6, 6, 0};
        x.back(0);
        for (int what = 0; what < 6; what++) {
            due("40: nothing, count(" + what + ")", x.count(what), empty[what]);
        }
        due("40: NONE in FORCE", x.count(12), -1);
        due("40: TERMS", x.count(13) * 10000 + x.count(14) * 100 + x.count(15), 100);
        due("10: a LAW again", Check.law(x, "bars"), 0);
        due("28: SAT again, of nobody there", x.sat(3), -2);
        x.back(1);
        for (int what = 0; what < 6; what++) {
            due("40: the most, count(" + what + ")", x.count(what), full[what]);
        }
        due("40: the LAW in FORCE", x.count(12), 5);
        due("40: its LAW tells, not the one that was read since", x.asks(0, 1, 2), 5);
        due("40: TERMS", x.count(13) * 10000 + x.count(14) * 100 + x.count(15), 9991009);
        due("40: the HARM", x.asks(5, 6, 0), 9);
        due("40: its DAY", x.asks(5, 6, 1), 999);
        due("40: no room for FOLK", x.folk(1), -5);
        due("40: no room for SAT", x.sat(3), -5);
        due("40: no room for a LAW", Check.law(x, "bars"), -5);
        due("41: IMAGES do not keep what was REFUSED", x.count(10), 4);
    }

    private static void imagesOfHarmsAndSat() {
        BrokenBread x = Check.upland(5, 5, 5, 5, 5, 5, 5);
        x.terms(0, 3);
        x.harm(6, 5, 7);
        x.harm(0, 1, 7);
        x.sat(96);
        x.sat(7);
        x.image(1);
        x.terms(0, 8);
        x.harm(6, 5, 8);
        x.pardon(0, 1);
        x.forget();
        x.sat(24);
        x.back(1);
        due("40: WEIGHTS", x.asks(6, 5, 0) * 10 + x.asks(0, 1, 0), 77);
        due("40: their DAYS", x.asks(6, 5, 1) * 10 + x.asks(0, 1, 1), 33);
        due("40: the sets that SAT", x.doubted(-1), 2);
        due("40: the first two of them that MAY not", x.doubted(0), 2);
        due("40: the second", x.doubted(1), 12);
    }

    private static void imagesLeave() {
        BrokenBread x = Check.upland(5, 5);
        x.image(0);
        Check.putBytes(x, 9, 9, 9, 9);
        x.row();
        Check.law(x, "bars ?");
        x.seasons(7, 2);
        Check.orders(x, "pass;pass;feast 0");
        Check.law(x, "?");
        x.feed(1, 2, 3, 4, 5);
        x.pass();
        int fed = x.drawn(0, -1);
        x.back(0);
        due("IV: they keep all but the TAPE", x.count(6), 20);
        due("IV: but FAULT", x.fault(), 0);
        due("IV: but CRUMBS", x.crumbs(), 2);
        due("IV: but where ORDERS stopped", x.stopped(), 2);
        due("IV: but what can be undone (nothing)", x.count(5), 0);
        due("IV: but the latest SEASONS", x.drawn(0, -1), fed);
        due("41: but what was REFUSED by -3", x.count(9), 1);
        due("41: but what was REFUSED by -6", x.count(11), 2);
    }

    private static void countsOfAll() {
        BrokenBread x = Check.upland(0, 5);
        for (int k = 1; k <= 3; k++) {
            x.folk(10);
            due("41: 7: by -1", x.count(7), k);
            x.force(3);
            due("41: 8: by -2", x.count(8), k);
            x.undo();
            due("41: 9: by -3", x.count(9), k);
            x.row();
            due("41: 11: by -6", x.count(11), k);
        }
        due("41: 10: by -5", x.count(10), 0);
        for (int k = 0; k < 7; k++) {
            x.sat(3);
        }
        due("41: 10: by -5", x.count(10), 1);
        due("41: 3: SAT", x.count(3), 6);
        due("41: 2: FED 0", x.count(2), 1);
        due("41: 16", x.count(16), -1);
        due("41: -1", x.count(-1), -1);
        x.end(50);
        x.of(7, 7);
        x.few(0, 0);
        x.drawn(0, 0);
        x.largest(0);
        due("41: NONE is no refusal", x.count(7), 3);
    }

    /** Each call of which status() tells, REFUSED and not. */
    private static void statusOfAll() {
        BrokenBread x = Check.upland(5, 5);
        int[][] told = new int[30][];
        int n = 0;
        told[n++] = new int[] {x.folk(-1), x.status(), -1};
        told[n++] = new int[] {x.folk(1), x.status(), 0};
        told[n++] = new int[] {x.terms(3, 1), x.status(), -1};
        told[n++] = new int[] {x.terms(0, 1), x.status(), 0};
        told[n++] = new int[] {x.row(), x.status(), -6};
        Check.putBytes(x, 1);
        told[n++] = new int[] {x.row(), x.status(), 0};
        told[n++] = new int[] {x.law(), x.status(), -6};
        told[n++] = new int[] {Check.law(x, "bars if 1 = 2"), x.status(), 0};
        told[n++] = new int[] {x.orders(), x.status(), -6};
        told[n++] = new int[] {Check.orders(x, "pass if 1 = 2"), x.status(), 0};
        told[n++] = new int[] {x.force(1), x.status(), -2};
        told[n++] = new int[] {x.force(0), x.status(), 0};
        told[n++] = new int[] {x.harm(0, 0, 1), x.status(), -1};
        told[n++] = new int[] {x.harm(0, 1, 1), x.status(), 0};
        told[n++] = new int[] {x.feast(0), x.status(), -3};
        told[n++] = new int[] {x.feast(3), x.status(), 0};
        told[n++] = new int[] {x.pardon(1, 0), x.status(), -3};
        told[n++] = new int[] {x.pardon(0, 1), x.status(), 0};
        told[n++] = new int[] {x.terms(0, 999), x.pass(), -3};
        told[n++] = new int[] {x.terms(0, 3), x.status(), 0};
        told[n++] = new int[] {x.undo(), x.status(), -3};
        told[n++] = new int[] {x.pass(), x.status(), 0};
        told[n++] = new int[] {x.undo(), x.status(), 0};
        told[n++] = new int[] {x.sat(1), x.status(), -1};
        told[n++] = new int[] {x.sat(3), x.status(), 0};
        told[n++] = new int[] {x.seasons(0, 0), x.status(), -1};
        told[n++] = new int[] {x.seasons(0, 1), x.status(), 0};
        told[n++] = new int[] {x.back(0), x.status(), -2};
        told[n++] = new int[] {x.image(0), x.status(), 0};
        told[n++] = new int[] {x.back(0), x.status(), 0};
        for (int k = 0; k < n; k++) {
            due("42: number " + k, told[k][1], told[k][2]);
        }
        x.back(2);
        due("42: back", x.status(), -1);
        x.back(0);
        due("42: back that was not, behind one that was", x.status(), 0);
        x.image(7);
        due("42: image", x.status(), -1);
        x.image(1);
        due("42: image that was not, behind one that was", x.status(), 0);
        x.image(7);
        x.feed(1, 1, 1, 1, 1);
        x.end(0);
        x.crumbs();
        x.fault();
        x.stopped();
        x.forget();
        x.asks(0, 1, 4);
        x.compare(-1);
        due("42: other calls leave it", x.status(), -1);
        due("42: status() itself leaves it", x.status(), -1);
    }

    public static void main(String[] args) {
        emptyUpland();
        twoObjects();
        folkAndFed();
        folkNotThere();
        newFolkIsUnhurt();
        terms();
        harms();
        feasts();
        pardons();
        days();
        undone();
        undoneOfEachKind();
        endsOfUndo();
        force();
        mayOfTwo();
        seasons();
        wrapOfDraws();
        harmsOfDraws();
        folkOfDraws();
        images();
        imagesOfMostAndNothing();
        imagesOfHarmsAndSat();
        imagesLeave();
        countsOfAll();
        statusOfAll();
        CHECK.close();
    }
}
