/** Promises 37 to 42: SEASONS, IMAGES, what is counted and how the latest call went. */
public final class KeptTest {
    private static final Check CHECK = new Check("kept");

    private static void due(String what, long got, long want) {
        CHECK.due(what, got, want);
    }

    private static void seasons() {
        BrokenBread x = new BrokenBread();
        due("37: no FOLK", x.seasons(1, 1), -3);
        due("37: -1 comes ahead of -3", x.seasons(-1, 1), -1);
        due("38: none yet", x.drawn(0, -1), -1);
        x.folk(3);
        due("38: none yet", x.drawn(0, -1), -1);
        due("37: the SEED above", x.seasons(1000001, 1), -1);
        due("37: n 0", x.seasons(1, 0), -1);
        due("37: n 61", x.seasons(1, 61), -1);
        due("38: none yet, all were REFUSED", x.drawn(0, -1), -1);
        due("37: one alone", x.seasons(1000000, 2), 0);
        due("38: its FED", x.drawn(0, -1), 1);
        due("37: 60", x.seasons(0, 60), 1);
        due("37: on paper", x.of(0, 0), 3);
        due("37: on paper, DAY", x.count(13), 0);
        due("37: nothing to undo", x.count(5), 0);
    }

    /** One season of three FOLK, FED 4, of whom 0 has harmed 1 by 9. */
    private static void oneSeason(String what, int seed, int weight, int fed) {
        BrokenBread x = Check.upland(4, 4, 4);
        x.harm(0, 1, 9);
        due(what + ", nobody starves", x.seasons(seed, 1), 0);
        due(what + ", WEIGHT", x.drawn(0, 1), weight);
        due(what + ", the other way", x.drawn(1, 0), 0);
        due(what + ", FED", x.drawn(0, -1), fed);
        due(what + ", FED of the other one", x.drawn(1, -1), fed);
        due(what + ", FED of a third one", x.drawn(2, -1), 3);
        due(what + ", on paper", x.asks(0, 1, 0), 9);
    }

    private static void seasonsByDraws() {
        oneSeason("37: DRAWS 0, 1, 1, 0: a HARM by 2", 3, 2, 3);
        oneSeason("37: DRAWS 0, 1, 7, 1: a HARM by 8", 75, 8, 3);
        oneSeason("37: DRAWS 0, 1, 4, 2: a FEAST", 6, 9, 5);
        oneSeason("37: DRAWS 0, 1, 6, 3: a PARDON", 60, 0, 3);
        oneSeason("37: DRAWS 0, 0, 3, 2: nothing", 24, 9, 3);
        BrokenBread x = Check.upland(4, 4, 4);
        x.terms(0, 3);
        x.harm(0, 1, 9);
        Check.law(x, "counts age;hungers day - 2;feeds 4");
        x.force(0);
        x.terms(0, 4);
        x.seasons(156, 1);
        due("37: it has that WEIGHT", x.drawn(0, 1), 9);
        due("37: HUNGERS by the LAW on that DAY", x.drawn(0, -1), 2);
        x.seasons(6, 1);
        due("37: FEEDS by the LAW", x.drawn(0, -1), 6);
        x.terms(0, 3);
        x.seasons(6, 1);
        due("37: no TABLE by the LAW", x.drawn(0, -1), 3);
    }

    private static void drawn() {
        BrokenBread x = Check.upland(9, 9, 9, 9);
        x.harm(3, 2, 8);
        due("37: none has FED 0", x.seasons(77, 3), 0);
        due("38: not there", x.drawn(4, -1), -1);
        due("38: below", x.drawn(-1, -1), -1);
        due("38: below NONE", x.drawn(0, -2), -1);
        due("38: one alone", x.drawn(1, 1), -1);
        due("38: the other one not there", x.drawn(1, 4), -1);
        int fed = x.drawn(0, -1);
        int weight = x.drawn(3, 2);
        x.folk(9);
        x.pardon(3, 2);
        due("38: those of the latest SEASONS", x.drawn(4, -1), -1);
        due("38: FED then", x.drawn(0, -1), fed);
        due("38: WEIGHT then", x.drawn(3, 2), weight);
        x.seasons(-1, 1);
        due("38: what was REFUSED leaves them", x.drawn(3, 2), weight);
        x.terms(0, 999);
        due("37: at DAY 999 it ends", x.seasons(77, 60), 0);
        due("38: as all is now", x.drawn(3, 2), 0);
        due("38: as all is now, FED", x.drawn(4, -1), 9);
        x.terms(0, 998);
        x.seasons(77, 60);
        int fell = 0;
        for (int p = 0; p < 5; p++) {
            fell += x.drawn(p, -1) == 8 || x.drawn(p, -1) == 9 ? 1 : 0;
        }
        due("37: one DAY alone", fell, 5);
    }

    private static BrokenBread full() {
        BrokenBread x = Check.upland(4, 6);
        x.terms(0, 5);
        x.terms(1, 7);
        x.terms(2, 3);
        x.harm(0, 1, 4);
        x.sat(3);
        Check.law(x, "counts 2");
        x.force(0);
        return x;
    }

    private static void images() {
        BrokenBread x = full();
        due("39: below", x.image(-1), -1);
        due("39: above", x.image(2), -1);
        due("40: not kept", x.back(0), -2);
        due("40: below", x.back(-1), -1);
        due("40: above", x.back(2), -1);
        due("39: kept", x.image(1), 0);
        due("40: the other one is not", x.back(0), -2);
        x.folk(9);
        x.pardon(0, 1);
        x.harm(1, 0, 8);
        x.pass();
        x.terms(1, 1);
        x.terms(2, 1);
        x.sat(5);
        Check.law(x, "bars");
        x.force(1);
        x.image(0);
        x.seasons(3, 1);
        int fed = x.drawn(2, -1);
        Check.putBytes(x, 9, 9);
        x.row();
        Check.orders(x, "pass;feast 0");
        Check.law(x, "bars 1");
        Check.put(x, "bars");
        x.harm(0, 1, 1);
        int refused = x.count(8);
        due("40: back", x.back(1), 0);
        due("40: status", x.status(), 0);
        due("40: FOLK", x.count(0), 2);
        due("40: FED", x.of(0, 0), 4);
        due("40: HARMS", x.count(1), 1);
        due("40: WEIGHT", x.asks(0, 1, 0), 4);
        due("40: its DAY", x.asks(0, 1, 1), 5);
        due("40: SAT", x.count(3), 1);
        due("40: LAWS", x.count(4), 1);
        x.forget();
        x.sat(1 + 2);
        x.back(1);
        due("40: the LAW in FORCE", x.count(12), 0);
        due("40: it tells", x.asks(1, 0, 2), 2);
        due("40: DAY", x.count(13), 5);
        due("40: TRIPS", x.count(14), 7);
        due("40: MOOD", x.count(15), 3);
        due("40: nothing can be undone", x.count(5), 0);
        due("40: the TAPE stays", x.count(6), 4);
        due("40: FAULT stays", x.fault(), 5);
        due("40: CRUMBS stay", x.crumbs(), 1);
        due("40: where ORDERS stopped stays", x.stopped(), 1);
        due("40: the latest SEASONS stay", x.drawn(2, -1), fed);
        due("41: what was REFUSED stays", x.count(8), refused);
        due("10: the next LAW", x.law(), 1);
        due("40: the other one", x.back(0), 0);
        due("40: its FOLK", x.count(0), 3);
        due("40: its HARM", x.asks(1, 0, 0), 8);
        due("40: its LAW", x.count(12), 1);
        due("40: IMAGES stay", x.back(1), 0);
        x.harm(0, 1, 9);
        due("40: they are not what stands", x.back(1), 0);
        due("40: as it was then", x.asks(0, 1, 0), 4);
        x.harm(0, 1, 9);
        x.image(1);
        x.harm(0, 1, 8);
        x.back(1);
        due("39: kept anew", x.asks(0, 1, 0), 9);
    }

    private static void seenInImages() {
        BrokenBread x = Check.upland(1, 1, 1);
        x.sat(3);
        x.image(0);
        x.forget();
        x.sat(6);
        due("30: another two", x.doubted(0), 12);
        x.back(0);
        due("40: who SAT together", x.doubted(0), 1);
    }

    private static void counts() {
        BrokenBread x = full();
        x.folk(0);
        x.folk(10);
        x.harm(0, 9, 1);
        x.undo();
        x.undo();
        x.undo();
        x.row();
        x.law();
        x.orders();
        x.row();
        for (int k = 0; k < 5; k++) {
            x.sat(3);
        }
        x.sat(3);
        x.sat(3);
        x.sat(3);
        x.sat(3);
        x.sat(3);
        x.feed(1, 1, 1, 1, 1);
        x.pass();
        int[] want = {3, 1, 1, 6, 1, 1, 20, 1, 1, 3, 5, 4, 0, 6, 7, 3, -1};
        for (int what = 0; what < want.length; what++) {
            due("41: count(" + what + ")", x.count(what), want[what]);
        }
        due("41: below", x.count(-1), -1);
        x.of(9, 9);
        x.drawn(9, 9);
        x.compare(9);
        x.end(999);
        x.few(0, 0);
        due("41: what is not REFUSED does not count, -1", x.count(7), 1);
        due("41: what is not REFUSED does not count, -2", x.count(8), 1);
    }

    private static void status() {
        BrokenBread x = full();
        x.folk(10);
        due("42: folk", x.status(), -1);
        x.of(9, 9);
        x.count(99);
        x.fault();
        x.end(99);
        x.feed(0, 0, 0, 0, 0);
        x.forget();
        due("42: others leave it", x.status(), -1);
        x.end(0);
        x.harm(0, 1, 7);
        due("42: harm", x.status(), 0);
        x.harm(0, 1, 7);
        due("42: harm that can't be", x.status(), -3);
        x.terms(0, 0);
        due("42: terms", x.status(), 0);
        x.row();
        due("42: row", x.status(), -6);
        x.force(-1);
        due("42: force", x.status(), 0);
        x.force(7);
        due("42: force that can't be", x.status(), -2);
        x.pass();
        due("42: pass", x.status(), 0);
        x.law();
        due("42: law", x.status(), -6);
        x.feast(3);
        due("42: feast", x.status(), 0);
        x.feast(0);
        due("42: feast that can't be", x.status(), -3);
        x.pardon(0, 1);
        due("42: pardon", x.status(), 0);
        x.orders();
        due("42: orders", x.status(), -6);
        x.undo();
        due("42: undo", x.status(), 0);
        x.seasons(0, 0);
        due("42: seasons", x.status(), -1);
        x.image(0);
        due("42: image", x.status(), 0);
        x.back(1);
        due("42: back", x.status(), -2);
        x.sat(3);
        due("42: sat", x.status(), 0);
        x.sat(96);
        due("42: sat that can't be", x.status(), -2);
    }

    public static void main(String[] args) {
        seasons();
        seasonsByDraws();
        drawn();
        images();
        seenInImages();
        counts();
        status();
        CHECK.close();
    }
}
