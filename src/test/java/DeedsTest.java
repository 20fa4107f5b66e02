/** Promises 1 to 5 and 14 to 19: FOLK, HARMS, FEASTS, PARDONS, DAYS and what is undone of them. */
public final class DeedsTest {
    private static final Check CHECK = new Check("deeds");

    private static void due(String what, long got, long want) {
        CHECK.due(what, got, want);
    }

    private static void newObject() {
        BrokenBread x = new BrokenBread();
        for (int what = 0; what <= 15; what++) {
            due("1: count(" + what + ") of a new object", x.count(what), what == 12 ? -1 : what == 14 ? 1 : 0);
        }
        due("1: status", x.status(), 0);
        due("1: crumbs", x.crumbs(), 0);
        due("1: fault", x.fault(), -1);
        due("1: stopped", x.stopped(), -1);
        due("1: drawn", x.drawn(0, -1), -1);
        due("1: NONE", BrokenBread.NONE, -1);
    }

    private static void folk() {
        BrokenBread x = new BrokenBread();
        due("2: below 0", x.folk(-1), -1);
        due("2: above 9", x.folk(10), -1);
        due("2: status", x.status(), -1);
        for (int p = 0; p < 7; p++) {
            due("2: the number", x.folk(p == 0 ? 0 : 9), p);
        }
        due("2: an eighth", x.folk(5), -5);
        due("2: -1 comes ahead of -5", x.folk(10), -1);
        due("2: how many", x.count(0), 7);
        due("2: FED 0", x.of(0, 0), 0);
        due("2: FED 9", x.of(6, 0), 9);
    }

    private static void of() {
        BrokenBread x = Check.upland(3, 5, 0);
        x.harm(0, 1, 2);
        x.harm(0, 2, 3);
        x.harm(1, 0, 4);
        due("3: FED", x.of(1, 0), 5);
        due("3: with whom", x.of(0, 1), 6);
        due("3: with whom, by a HARM of the other one", x.of(2, 1), 1);
        due("3: how it HUNGERS", x.of(2, 2), 1);
        due("3: HARMS it did", x.of(0, 3), 2);
        due("3: HARMS done to it", x.of(0, 4), 1);
        due("3: HARMS it did not do", x.of(2, 3), 0);
        x.harm(1, 2, 1);
        due("3: HARMS of two to it", x.of(2, 4), 2);
        due("3: HARMS it did, one of them by 1", x.of(1, 3), 2);
        due("3: no such FOLK", x.of(3, 0), -1);
        due("3: below", x.of(-1, 0), -1);
        due("3: no such what", x.of(0, 5), -1);
        due("3: what below", x.of(0, -1), -1);
        Check.law(x, "hungers fed - 1 - mood");
        x.force(0);
        due("3: HUNGERS by a LAW", x.of(1, 2), 4);
        due("3: HUNGERS 0 at least", x.of(2, 2), 0);
        x.terms(2, 3);
        due("3: HUNGERS by MOOD", x.of(1, 2), 1);
    }

    private static void asks() {
        BrokenBread x = Check.upland(3, 9, 0);
        x.terms(0, 12);
        x.harm(0, 1, 7);
        due("4: WEIGHT", x.asks(0, 1, 0), 7);
        due("4: DAY", x.asks(0, 1, 1), 12);
        due("4: COUNTS", x.asks(0, 1, 2), 7);
        due("4: BARS", x.asks(0, 1, 3), 0);
        due("4: MAY", x.asks(0, 1, 4), 1);
        due("4: MAY, the other way", x.asks(1, 0, 4), 1);
        due("4: no WEIGHT", x.asks(1, 0, 0), 0);
        due("4: no DAY", x.asks(1, 0, 1), -1);
        due("4: COUNTS 0", x.asks(1, 0, 2), 0);
        due("4: MAY not", x.asks(1, 2, 4), 0);
        due("4: one alone", x.asks(1, 1, 4), -1);
        due("4: none such", x.asks(0, 3, 0), -1);
        due("4: none such, the doer", x.asks(-1, 0, 0), -1);
        due("4: none such, the doer above", x.asks(3, 0, 0), -1);
        due("4: no such what", x.asks(0, 1, 5), -1);
        due("4: what below", x.asks(0, 1, -1), -1);
        Check.law(x, "counts 10 if other = 2;counts 0 - 3 if doer = 2;bars if fed = 9 and other = 2");
        x.force(0);
        due("4: COUNTS 9 at most", x.asks(0, 2, 2), 9);
        due("4: COUNTS 0 at least", x.asks(2, 0, 2), 0);
        due("4: BARS by a LAW", x.asks(1, 2, 3), 1);
        due("4: one way only", x.asks(2, 1, 3), 0);
        due("4: MAY not, if one BARS", x.asks(2, 1, 4), 0);
        due("4: MAY by a LAW without a HARM", x.asks(2, 0, 4), 1);
    }

    private static void terms() {
        BrokenBread x = Check.upland(1, 2);
        due("5: DAY", x.terms(0, 999), 0);
        due("5: DAY was", x.terms(0, 4), 999);
        due("5: TRIPS", x.terms(1, 10), 1);
        due("5: TRIPS was", x.terms(1, 0), 10);
        due("5: MOOD", x.terms(2, 9), 0);
        due("5: MOOD was", x.terms(2, 8), 9);
        int[][] bad = {{0, 1000}, {0, -1}, {1, 11}, {1, -1}, {2, 10}, {2, -1}, {3, 0}, {-1, 0}};
        for (int[] b : bad) {
            due("5: terms(" + b[0] + ", " + b[1] + ")", x.terms(b[0], b[1]), -1);
            due("5: status", x.status(), -1);
        }
        due("5: kept, DAY", x.count(13), 4);
        due("5: kept, TRIPS", x.count(14), 0);
        due("5: kept, MOOD", x.count(15), 8);
    }

    private static void force() {
        BrokenBread x = Check.upland(1, 2);
        due("14: no LAW", x.force(0), -2);
        due("14: status", x.status(), -2);
        due("14: NONE at first", x.force(-1), -1);
        due("14: NONE is not REFUSED", x.status(), 0);
        due("14: no refusal", x.count(7), 0);
        Check.law(x, "counts 1");
        Check.law(x, "bars");
        due("14: which was", x.force(0), -1);
        due("14: status of an answer of NONE", x.status(), 0);
        due("14: it tells", x.asks(0, 1, 4), 1);
        due("14: the next", x.force(1), 0);
        due("14: it tells", x.asks(0, 1, 3), 1);
        due("14: none such", x.force(2), -2);
        due("14: below NONE", x.force(-2), -2);
        due("14: stays", x.count(12), 1);
        due("14: none again", x.force(-1), 1);
        due("14: no CLAUSE then", x.asks(0, 1, 3), 0);
    }

    private static void harm() {
        BrokenBread x = Check.upland(1, 2, 3);
        due("15: none was", x.harm(0, 1, 9), 0);
        due("15: status", x.status(), 0);
        due("15: it has that WEIGHT", x.harm(0, 1, 9), -3);
        x.terms(0, 5);
        due("15: on another DAY, too", x.harm(0, 1, 9), -3);
        due("15: and its DAY stays", x.asks(0, 1, 1), 0);
        due("15: another WEIGHT", x.harm(0, 1, 1), 9);
        due("15: its DAY is DAY", x.asks(0, 1, 1), 5);
        due("15: WEIGHT 0", x.harm(0, 2, 0), -1);
        due("15: WEIGHT 10", x.harm(0, 2, 10), -1);
        due("15: oneself", x.harm(2, 2, 3), -1);
        due("15: oneself who is not there", x.harm(8, 8, 3), -1);
        due("15: no such FOLK", x.harm(0, 3, 3), -2);
        due("15: no such doer", x.harm(-1, 0, 3), -2);
        due("15: no such doer above", x.harm(3, 0, 3), -2);
        due("15: -1 comes ahead of -2", x.harm(0, 3, 0), -1);
        due("15: HARMS", x.count(1), 1);
    }

    private static void feast() {
        BrokenBread x = Check.upland(3, 8, 0, 4);
        x.harm(0, 1, 1);
        x.harm(1, 2, 1);
        x.harm(2, 0, 1);
        due("16: how many", x.feast(7), 3);
        due("16: FED by 2", x.of(0, 0), 5);
        due("16: FED 9 at most", x.of(1, 0), 9);
        due("16: another one is not FED", x.of(3, 0), 4);
        due("16: no TABLE", x.feast(15), -3);
        due("16: one alone", x.feast(1), -3);
        due("16: nobody", x.feast(0), -3);
        due("16: below", x.feast(-1), -1);
        due("16: above", x.feast(128), -1);
        due("16: not there", x.feast(17), -2);
        due("16: -2 comes ahead of -3", x.feast(127), -2);
        Check.law(x, "feeds size * 2 - fed if doer < 2;feeds 0 if doer = 2;feeds 9 if size = 2;bars if doer = 2 and other = 0");
        x.force(0);
        due("16: one BARS", x.feast(7), -3);
        x.terms(2, 0);
        due("16: two", x.feast(3), 2);
        due("16: the last that HOLDS", x.of(0, 0), 9);
        due("16: others stay", x.of(2, 0), 2);
        x.harm(0, 3, 2);
        x.harm(1, 3, 2);
        due("16: three", x.feast(11), 3);
        due("16: FEEDS 2 without", x.of(3, 0), 6);
    }

    private static void pardon() {
        BrokenBread x = Check.upland(1, 2);
        x.harm(0, 1, 4);
        due("17: the other way there is none", x.pardon(1, 0), -3);
        due("17: its WEIGHT", x.pardon(0, 1), 4);
        due("17: none then", x.asks(0, 1, 0), 0);
        due("17: no DAY then", x.asks(0, 1, 1), -1);
        due("17: there is none", x.pardon(0, 1), -3);
        due("17: oneself", x.pardon(5, 5), -1);
        due("17: no such FOLK", x.pardon(0, 2), -2);
        due("17: any WEIGHT again", x.harm(0, 1, 4), 0);
    }

    private static void pass() {
        BrokenBread x = Check.upland(3, 1, 0, 9);
        due("18: how many have FED 0", x.pass(), 2);
        due("18: by 1 without", x.of(0, 0), 2);
        due("18: 0 at least", x.of(2, 0), 0);
        due("18: the next DAY", x.count(13), 1);
        Check.law(x, "hungers 4 if day = 1;hungers 1 / [fed - 8] if fed = 8;hungers day");
        x.force(0);
        due("18: by the last that HOLDS", x.pass(), 2);
        due("18: by what was ahead", x.of(3, 0), 7);
        x.terms(0, 998);
        due("18: to 999", x.pass(), 4);
        due("18: at 999", x.pass(), -3);
        due("18: status", x.status(), -3);
        due("18: DAY stays", x.count(13), 999);
    }

    private static void undo() {
        BrokenBread x = Check.upland(3, 8, 0);
        due("19: nothing", x.undo(), -3);
        x.harm(0, 1, 4);
        x.pass();
        x.harm(0, 1, 6);
        x.feast(3);
        x.pardon(0, 1);
        due("19: how many", x.count(5), 5);
        due("19: a pardon", x.undo(), 2);
        due("19: the WEIGHT is back", x.asks(0, 1, 0), 6);
        due("19: its DAY is back", x.asks(0, 1, 1), 1);
        due("19: a feast", x.undo(), 1);
        due("19: FED is back", x.of(1, 0), 7);
        due("19: a harm", x.undo(), 0);
        due("19: the former WEIGHT", x.asks(0, 1, 0), 4);
        due("19: the former DAY", x.asks(0, 1, 1), 0);
        due("19: a pass", x.undo(), 3);
        due("19: FED ahead of it", x.of(0, 0), 3);
        due("19: DAY ahead of it", x.count(13), 0);
        due("19: the first", x.undo(), 0);
        due("19: no HARM", x.count(1), 0);
        due("19: nothing more", x.undo(), -3);
        for (int k = 0; k < 17; k++) {
            x.harm(0, 1, 1 + k % 9);
        }
        due("19: 16 are kept", x.count(5), 16);
        for (int k = 0; k < 16; k++) {
            due("19: undone", x.undo(), 0);
        }
        due("19: the 17th is not", x.undo(), -3);
        due("19: it stays done", x.asks(0, 1, 0), 1);
    }

    private static void undoOfOthers() {
        BrokenBread x = Check.upland(3, 8, 0);
        x.terms(0, 30);
        x.harm(2, 1, 4);
        x.pass();
        x.pass();
        x.pardon(2, 1);
        x.undo();
        due("19: its WEIGHT", x.asks(2, 1, 0), 4);
        due("19: its DAY", x.asks(2, 1, 1), 30);
        due("19: no other HARM", x.count(1), 1);
        x.undo();
        due("19: DAY of a pass", x.count(13), 31);
        x.undo();
        due("19: DAY of another one", x.count(13), 30);
        for (int k = 0; k < 16; k++) {
            x.harm(2, 0, 1 + k % 9);
        }
        due("19: sixteen more, undone by none that fails", Check.orders(x, "pass times 18;feast 0"), -3);
        for (int k = 14; k >= 0; k--) {
            due("19: the deeds ahead of it", x.undo(), 0);
            due("19: what they were", x.asks(2, 0, 0), 1 + k % 9);
        }
    }

    private static void undoEnds() {
        BrokenBread x = Check.upland(3, 8, 0);
        x.harm(0, 1, 4);
        x.folk(10);
        x.terms(0, 1000);
        x.row();
        x.back(0);
        x.back(2);
        due("19: what is REFUSED leaves it", x.count(5), 1);
        Check.law(x, "bars");
        x.force(0);
        x.sat(3);
        x.forget();
        x.seasons(1, 3);
        x.image(0);
        due("19: these leave it", x.count(5), 1);
        x.folk(1);
        due("19: folk() ends it", x.undo(), -3);
        x.harm(0, 1, 5);
        x.terms(2, 0);
        due("19: terms() ends it", x.undo(), -3);
        x.harm(0, 1, 6);
        Check.putBytes(x, 99);
        x.row();
        due("19: row() ends it", x.undo(), -3);
        x.harm(0, 1, 7);
        x.back(0);
        due("19: back() ends it", x.undo(), -3);
    }

    public static void main(String[] args) {
        newObject();
        folk();
        of();
        asks();
        terms();
        force();
        harm();
        feast();
        pardon();
        pass();
        undo();
        undoOfOthers();
        undoEnds();
        CHECK.close();
    }
}
