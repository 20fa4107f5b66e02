import java.util.ArrayList;
import java.util.List;
import java.util.function.ToIntFunction;
import java.util.function.ToLongFunction;

/**
 * Every way in which a call can be REFUSED, or answer NONE: the answer, what status() and count() tell of it,
 * and that all else is as it was. What is asked on paper leaves all as it was, too.
 */
public final class RefusedTest {
    private static final Check CHECK = new Check("refused");

    private static void due(String what, long got, long want) {
        CHECK.due(what, got, want);
    }

    /** Three FOLK with HARMS, SAT, two LAWS, two IMAGES that differ, SEASONS, CRUMBS, a FAULT, bytes on the TAPE. */
    private static BrokenBread busy() {
        BrokenBread x = Check.upland(4, 0, 9);
        x.terms(1, 3);
        x.terms(2, 6);
        x.harm(0, 1, 4);
        Check.putBytes(x, 2, 2, 2, 1);
        x.row();
        x.image(0);
        x.sat(6);
        Check.law(x, "counts weight;hungers 2 if fed > 3");
        Check.law(x, "bars if doer = 2");
        x.force(0);
        x.terms(0, 5);
        x.image(1);
        x.seasons(3, 2);
        x.harm(1, 2, 7);
        x.feast(6);
        x.pass();
        Check.orders(x, "pass;feast 1");
        Check.law(x, "bars 1");
        Check.put(x, "pass times 5");
        return x;
    }

    /** As busy(), with FOLK, SAT and LAWS as many as can be. */
    private static BrokenBread full() {
        BrokenBread x = Check.upland(4, 0, 9, 1, 2, 3, 5);
        for (int k = 0; k < 6; k++) {
            x.sat(3);
            Check.law(x, "counts " + k);
        }
        Check.put(x, "bars 1");
        return x;
    }

    private static void lookAtLand(BrokenBread x, List<Long> seen) {
        int folks = x.count(0);
        for (int what = 0; what <= 15; what++) {
            seen.add((long) (what >= 5 && what <= 11 ? 0 : x.count(what)));
        }
        for (int p = 0; p < folks && p < 4; p++) {
            for (int what = 0; what <= 4; what++) {
                seen.add((long) x.of(p, what));
            }
            for (int q = 0; q < folks && q < 4; q++) {
                for (int what = 0; what <= 3; what++) {
                    seen.add((long) x.asks(p, q, what));
                }
            }
        }
        for (int i = 0; i < 3; i++) {
            seen.add((long) x.doubted(i));
        }
        seen.add(x.few(2, 5));
    }

    private static void lookAtRest(BrokenBread x, List<Long> seen) {
        seen.add((long) x.crumbs());
        seen.add((long) x.count(5));
        for (int p = 0; p < 3; p++) {
            for (int q = -1; q < 3; q++) {
                seen.add((long) x.drawn(p, q));
            }
        }
    }

    /** All that can be seen: what stands, what undo() leaves behind, both IMAGES. The object is of no use then. */
    private static List<Long> all(BrokenBread x) {
        List<Long> seen = new ArrayList<>();
        lookAtLand(x, seen);
        lookAtRest(x, seen);
        for (int k = 0; k < 4; k++) {
            seen.add((long) x.undo());
            seen.add((long) x.count(13));
            seen.add((long) x.of(1, 0));
            seen.add((long) x.asks(1, 2, 0));
        }
        for (int k = 0; k < 2; k++) {
            seen.add((long) x.back(k));
            lookAtLand(x, seen);
        }
        return seen;
    }

    private static int[] refusals(BrokenBread x) {
        int[] counted = new int[5];
        for (int k = 0; k < 5; k++) {
            counted[k] = x.count(7 + k);
        }
        return counted;
    }

    private static int placeOf(int refusal) {
        return refusal == -5 ? 3 : refusal == -6 ? 4 : -1 - refusal;
    }

    private static void refused(String name, boolean isFull, int want, ToIntFunction<BrokenBread> call) {
        BrokenBread x = isFull ? full() : busy();
        int tape = x.count(6);
        int fault = x.fault();
        int stopped = x.stopped();
        int[] ahead = refusals(x);
        due(name, call.applyAsInt(x), want);
        due(name + ": status", x.status(), want);
        ahead[placeOf(want)]++;
        int[] behind = refusals(x);
        for (int k = 0; k < 5; k++) {
            due(name + ": count(" + (7 + k) + ")", behind[k], ahead[k]);
        }
        if (!name.startsWith("law") && !name.startsWith("orders")) {
            due(name + ": the TAPE stays", x.count(6), name.startsWith("row") ? 0 : tape);
            due(name + ": FAULT stays", x.fault(), fault);
            due(name + ": where ORDERS stopped stays", x.stopped(), stopped);
        }
        CHECK.isSo(name + ": all else is as it was", all(x).equals(all(isFull ? full() : busy())));
    }

    private static int text(BrokenBread x, String text) {
        x.end(0);
        Check.put(x, text);
        return 0;
    }

    private static void deeds() {
        int low = Integer.MIN_VALUE;
        int high = Integer.MAX_VALUE;
        for (int fed : new int[] {-1, 10, low, high, -128, 256}) {
            refused("folk(" + fed + ")", false, -1, x -> x.folk(fed));
            refused("folk(" + fed + ") of eight", true, -1, x -> x.folk(fed));
        }
        refused("folk(0) of eight", true, -5, x -> x.folk(0));
        refused("folk(9) of eight", true, -5, x -> x.folk(9));
        int[][] terms = {{0, -1}, {0, 1000}, {1, -1}, {1, 11}, {2, -1}, {2, 10}, {3, 0}, {-1, 0}, {0, low}, {0, high},
            {1, low}, {1, high}, {2, low}, {2, high}, {low, 0}, {high, 0}};
        for (int[] t : terms) {
            refused("terms(" + t[0] + ", " + t[1] + ")", false, -1, x -> x.terms(t[0], t[1]));
        }
        for (int law : new int[] {2, 3, 6, -2, low, high}) {
            refused("force(" + law + ")", false, -2, x -> x.force(law));
        }
        refused("force(6) of six", true, -2, x -> x.force(6));
        refused("undo() of nothing", true, -3, BrokenBread::undo);
        refused("row() of nothing", false, -6, x -> x.end(0) + x.row());
        refused("back(0) not kept", true, -2, x -> x.back(0));
        refused("back(1) not kept", true, -2, x -> x.back(1));
        for (int k : new int[] {-1, 2, low, high, 32}) {
            refused("image(" + k + ")", false, -1, x -> x.image(k));
            refused("back(" + k + ")", false, -1, x -> x.back(k));
            refused("back(" + k + ") without an IMAGE", true, -1, x -> x.back(k));
        }
    }

    private static void harmsAndPardons() {
        int low = Integer.MIN_VALUE;
        int high = Integer.MAX_VALUE;
        int[][] harms = {{0, 2, 0, -1}, {0, 2, 10, -1}, {0, 2, -1, -1}, {0, 2, low, -1}, {0, 2, high, -1}, {0, 0, 1, -1},
            {2, 2, 9, -1}, {3, 3, 1, -1}, {-1, -1, 1, -1}, {7, 7, 1, -1}, {3, 0, 0, -1}, {0, 3, 10, -1}, {0, 3, 1, -2},
            {3, 0, 1, -2}, {-1, 0, 9, -2}, {0, -1, 9, -2}, {6, 5, 1, -2}, {low, 0, 1, -2}, {0, high, 1, -2}, {32, 1, 4, -2},
            {0, 33, 4, -2}, {0, 1, 4, -3}, {1, 2, 7, -3}};
        for (int[] h : harms) {
            refused("harm(" + h[0] + ", " + h[1] + ", " + h[2] + ")", false, h[3], x -> x.harm(h[0], h[1], h[2]));
        }
        int[][] pardons = {{0, 0, -1}, {3, 3, -1}, {-1, -1, -1}, {low, low, -1}, {0, 3, -2}, {3, 0, -2}, {-1, 0, -2},
            {0, -1, -2}, {high, 0, -2}, {0, low, -2}, {32, 1, -2}, {1, 0, -3}, {2, 0, -3}};
        for (int[] p : pardons) {
            refused("pardon(" + p[0] + ", " + p[1] + ")", false, p[2], x -> x.pardon(p[0], p[1]));
        }
    }

    private static void setsAndDays() {
        int low = Integer.MIN_VALUE;
        int high = Integer.MAX_VALUE;
        int[][] feasts = {{-1, -1}, {128, -1}, {136, -1}, {131, -1}, {low, -1}, {high, -1}, {8, -2}, {11, -2}, {127, -2},
            {64, -2}, {0, -3}, {1, -3}, {4, -3}, {5, -3}, {7, -3}};
        for (int[] f : feasts) {
            refused("feast(" + f[0] + ")", false, f[1], x -> x.feast(f[0]));
        }
        int[][] seen = {{-1, -1}, {128, -1}, {131, -1}, {low, -1}, {high, -1}, {0, -1}, {1, -1}, {4, -1}, {8, -1}, {64, -1},
            {9, -2}, {15, -2}, {24, -2}, {127, -2}};
        for (int[] s : seen) {
            refused("sat(" + s[0] + ")", false, s[1], x -> x.sat(s[0]));
        }
        refused("sat(3) of seven", true, -5, x -> x.sat(3));
        refused("sat(127) of seven", true, -5, x -> x.sat(127));
        refused("sat(1) of seven", true, -1, x -> x.sat(1));
        refused("sat(128) of seven", true, -1, x -> x.sat(128));
        int[][] drawn = {{-1, 1}, {1000001, 1}, {0, 0}, {0, 61}, {0, -1}, {low, 1}, {high, 1}, {5, low}, {5, high}};
        for (int[] d : drawn) {
            refused("seasons(" + d[0] + ", " + d[1] + ")", false, -1, x -> x.seasons(d[0], d[1]));
        }
    }

    /** What is -2 or -3 only in an upland other than those above. */
    private static void others() {
        BrokenBread x = new BrokenBread();
        due("seasons() without FOLK", x.seasons(0, 1), -3);
        due("seasons() without FOLK, the SEED", x.seasons(-1, 1), -1);
        due("seasons() without FOLK, n", x.seasons(0, 61), -1);
        due("sat() without FOLK", x.sat(3), -2);
        due("sat() without FOLK, of one", x.sat(1), -1);
        due("feast() without FOLK", x.feast(1), -2);
        due("feast() without FOLK, of nobody", x.feast(0), -3);
        due("count(7)", x.count(7), 3);
        due("count(8)", x.count(8), 2);
        due("count(9)", x.count(9), 2);
        BrokenBread y = busy();
        y.terms(0, 999);
        y.harm(2, 0, 1);
        due("pass() at 999", y.pass(), -3);
        due("pass() at 999: status", y.status(), -3);
        due("pass() at 999: DAY", y.count(13), 999);
        due("pass() at 999: FED", y.of(2, 0), 7);
        due("pass() at 999: what can be undone", y.count(5), 1);
        due("pass() at 999: the harm ahead", y.undo(), 0);
        BrokenBread z = full();
        z.back(0);
        due("-2 of a full upland", z.status(), -2);
        z.feast(127);
        due("-3 of a full upland", z.status(), -3);
    }

    private static void texts() {
        refused("law() of nothing", false, -6, x -> x.end(0) + x.law());
        refused("law() of blanks", false, -6, x -> text(x, "   ") + x.law());
        refused("law() of ORDERS", false, -6, BrokenBread::law);
        refused("law() of six and a good one", true, -5, x -> text(x, "bars") + x.law());
        refused("law() of six and a bad one", true, -5, BrokenBread::law);
        refused("law() of six and nothing", true, -5, x -> x.end(0) + x.law());
        refused("orders() of nothing", false, -6, x -> x.end(0) + x.orders());
        refused("orders() of blanks", false, -6, x -> text(x, " ") + x.orders());
        refused("orders() of a LAW", false, -6, x -> text(x, "bars") + x.orders());
        refused("orders() at their end", false, -6, x -> text(x, "pass;") + x.orders());
        String[] cant = {"pass;harm 0 to 1 by 4", "harm 0 to 1 by 5;feast 3;pardon 0 to 1;pass;pardon 0 to 1", "feast 0 - 1",
            "pass times 20;feast 1", "pass times 17;pardon 0 to 0", "feast 6;pass;feast 1 / 0", "pass;harm 0 to 9 by 1",
            "harm 2 to 0 by 1;harm 2 to 0 by 1 times 2", "harm 2 to 0 by done + 1 times 10"};
        for (String text : cant) {
            refused("orders() of " + text, false, -3, x -> text(x, text) + x.orders());
        }
        for (String text : new String[] {"bars 1", "", "bars", "pass"}) {
            BrokenBread x = busy();
            text(x, text);
            x.law();
            due("law() of \"" + text + "\": the TAPE is empty then", x.count(6), 0);
            BrokenBread y = busy();
            text(y, text);
            y.orders();
            due("orders() of \"" + text + "\": the TAPE is empty then", y.count(6), 0);
            BrokenBread z = full();
            text(z, text);
            z.law();
            due("law() of six, \"" + text + "\": the TAPE is empty then", z.count(6), 0);
        }
        BrokenBread x = busy();
        due("FAULT of what was read ahead", x.fault(), 5);
        x.back(0);
        for (int k = 0; k < 6; k++) {
            text(x, "bars");
            x.law();
        }
        text(x, "bars if");
        x.orders();
        due("FAULT of ORDERS", x.fault(), 0);
        text(x, "pass if");
        x.orders();
        due("FAULT of ORDERS at the end", x.fault(), 7);
        text(x, "bars");
        due("no room", x.law(), -5);
        due("a LAW that was not read leaves FAULT", x.fault(), 7);
        text(x, "feast 1");
        due("can't be", x.orders(), -3);
        due("ORDERS that were read have none", x.fault(), -1);
    }

    private static void none(String name, ToLongFunction<BrokenBread> call) {
        BrokenBread x = busy();
        x.folk(10);
        int[] ahead = refusals(x);
        int tape = x.count(6);
        int fault = x.fault();
        int stopped = x.stopped();
        due(name, call.applyAsLong(x), -1);
        due(name + " leaves status", x.status(), -1);
        due(name + " leaves the TAPE", x.count(6), tape);
        due(name + " leaves FAULT", x.fault(), fault);
        due(name + " leaves where ORDERS stopped", x.stopped(), stopped);
        int[] behind = refusals(x);
        for (int k = 0; k < 5; k++) {
            due(name + " is not REFUSED, " + k, behind[k], ahead[k]);
        }
        CHECK.isSo(name + " leaves all", all(x).equals(all(busy())));
    }

    /** Numbers at which no list has anything: below NONE, beyond all, and those that wrap around in a shift. */
    private static final int[] FAR = {-2, -3, Integer.MIN_VALUE, Integer.MIN_VALUE + 1, Integer.MAX_VALUE, 1 << 30, 300, 64, 33,
        32, 31, 21};

    private static void noneOfOne() {
        for (int far : FAR) {
            none("of(" + far + ", 0)", x -> x.of(far, 0));
            none("of(0, " + far + ")", x -> x.of(0, far));
            none("asks(" + far + ", 0, 0)", x -> x.asks(far, 0, 0));
            none("asks(0, " + far + ", 0)", x -> x.asks(0, far, 0));
            none("asks(0, 1, " + far + ")", x -> x.asks(0, 1, far));
            none("end(" + far + ")", x -> x.end(far));
            none("largest(" + far + ")", x -> x.largest(far));
            none("tables(" + far + ")", x -> x.tables(far));
            none("newHarms(" + far + ")", x -> x.newHarms(far));
            none("leftOut(" + far + ")", x -> x.leftOut(far));
            none("seat(7, " + far + ")", x -> x.seat(7, far));
            none("chain(" + far + ", 0, -1)", x -> x.chain(far, 0, -1));
            none("chain(0, " + far + ", -1)", x -> x.chain(0, far, -1));
            none("chain(" + far + ", " + far + ", -1)", x -> x.chain(far, far, -1));
            none("chain(0, 2, " + far + ")", x -> x.chain(0, 2, far));
            none("bridges(" + far + ")", x -> x.bridges(far));
            none("doubted(" + far + ")", x -> x.doubted(far));
            none("ask(1, " + far + ")", x -> x.ask(1, far));
            none("lasts(" + far + ")", x -> x.lasts(far));
            none("fedBy(" + far + ")", x -> x.fedBy(far));
            none("compare(" + far + ")", x -> x.compare(far));
            none("drawn(" + far + ", -1)", x -> x.drawn(far, -1));
            none("drawn(0, " + far + ")", x -> x.drawn(0, far));
            none("count(" + far + ")", x -> x.count(far));
        }
        for (int far : new int[] {-1, -2, Integer.MIN_VALUE, Integer.MAX_VALUE, 100, 128}) {
            none("few(" + far + ", 5)", x -> x.few(far, 5));
            none("few(5, " + far + ")", x -> x.few(5, far));
        }
        none("few(0, 5)", x -> x.few(0, 5));
        none("few(21, 5)", x -> x.few(21, 5));
    }

    /** Just beyond what there is. */
    private static void noneJustBeyond() {
        none("of(3, 0)", x -> x.of(3, 0));
        none("of(-1, 0)", x -> x.of(-1, 0));
        none("of(0, 5)", x -> x.of(0, 5));
        none("of(0, -1)", x -> x.of(0, -1));
        none("asks(3, 0, 0)", x -> x.asks(3, 0, 0));
        none("asks(0, 3, 0)", x -> x.asks(0, 3, 0));
        none("asks(-1, 0, 0)", x -> x.asks(-1, 0, 0));
        none("asks(0, -1, 0)", x -> x.asks(0, -1, 0));
        for (int what = 0; what < 5; what++) {
            int w = what;
            none("asks(1, 1, " + what + ")", x -> x.asks(1, 1, w));
        }
        none("asks(0, 1, 5)", x -> x.asks(0, 1, 5));
        none("asks(0, 1, -1)", x -> x.asks(0, 1, -1));
        none("end(13)", x -> x.end(13));
        none("end(-1)", x -> x.end(-1));
        none("largest(2)", x -> x.largest(2));
        none("largest(-1)", x -> x.largest(-1));
        none("tables(4)", x -> x.tables(4));
        none("tables(-1)", x -> x.tables(-1));
        none("newHarms(4)", x -> x.newHarms(4));
        none("newHarms(-1)", x -> x.newHarms(-1));
        none("leftOut(2)", x -> x.leftOut(2));
        none("leftOut(-1)", x -> x.leftOut(-1));
        for (int set : new int[] {-1, 8, 15, 127, 128, 131, Integer.MIN_VALUE, Integer.MAX_VALUE, 1 << 30}) {
            none("seat(" + set + ", 0)", x -> x.seat(set, 0));
            none("fitting(" + set + ")", x -> x.fitting(set));
            none("ask(" + set + ", 0)", x -> x.ask(set, 0));
            none("ask(" + set + ", 1)", x -> x.ask(set, 1));
        }
        none("seat(0, 0)", x -> x.seat(0, 0));
        none("seat(7, 3)", x -> x.seat(7, 3));
        none("seat(7, -1)", x -> x.seat(7, -1));
        none("chain(3, 0, -1)", x -> x.chain(3, 0, -1));
        none("chain(0, 3, -1)", x -> x.chain(0, 3, -1));
        none("chain(-1, 0, -1)", x -> x.chain(-1, 0, -1));
        none("chain(0, -1, -1)", x -> x.chain(0, -1, -1));
        none("chain(0, 2, 2)", x -> x.chain(0, 2, 2));
        none("chain(1, 1, 0)", x -> x.chain(1, 1, 0));
        none("bridges(2)", x -> x.bridges(2));
        none("doubted(0)", x -> x.doubted(0));
        none("ask(1, 2)", x -> x.ask(1, 2));
        none("ask(1, -1)", x -> x.ask(1, -1));
        none("lasts(3)", x -> x.lasts(3));
        none("lasts(-1)", x -> x.lasts(-1));
        none("fedBy(11)", x -> x.fedBy(11));
        none("fedBy(-1)", x -> x.fedBy(-1));
        none("compare(2)", x -> x.compare(2));
        none("drawn(3, -1)", x -> x.drawn(3, -1));
        none("drawn(-1, -1)", x -> x.drawn(-1, -1));
        none("drawn(0, 3)", x -> x.drawn(0, 3));
        none("drawn(2, 2)", x -> x.drawn(2, 2));
        none("count(16)", x -> x.count(16));
        none("count(-1)", x -> x.count(-1));
    }

    /** What is asked on paper, and what it answers of busy(). */
    private static void onPaper() {
        BrokenBread x = busy();
        x.folk(10);
        long[][] asked = {{x.of(2, 1), 2}, {x.asks(1, 2, 4), 1}, {x.largest(0), 2}, {x.tables(0), -1}, {x.newHarms(0), 1},
            {x.leftOut(0), 1}, {x.seat(7, 0), 2}, {x.chain(0, 2, -1), 2}, {x.circles(), 1}, {x.bridges(-1), 2},
            {x.doubted(-1), 0}, {x.fitting(2), 5}, {x.ask(2, 0), 0}, {x.lasts(2), 5}, {x.fedBy(10), 2}, {x.compare(1), 2},
            {x.drawn(0, 1), 2}, {x.crumbs(), 2}, {x.fault(), 5}, {x.stopped(), 1}, {x.count(0), 3}};
        for (int k = 0; k < asked.length; k++) {
            due("on paper, number " + k, asked[k][0], asked[k][1]);
        }
        due("on paper: status stays", x.status(), -1);
        CHECK.isSo("on paper: all is as it was", all(x).equals(all(busy())));
    }

    /** A full TAPE: feed() answers NONE, and nothing else is changed. */
    private static void fullTape() {
        BrokenBread x = busy();
        x.end(0);
        for (int k = 1; k <= 20; k++) {
            due("feed() up to 400", x.feed(k, -k, k << 24, 0, -1), 20 * k);
        }
        x.folk(10);
        due("feed() beyond 400", x.feed(1, 1, 1, 1, 1), -1);
        due("feed() leaves status", x.status(), -1);
        due("feed() leaves the TAPE", x.count(6), 400);
        due("feed() is not REFUSED", x.count(7), busy().count(7) + 1);
        CHECK.isSo("feed() leaves all", all(x).equals(all(busy())));
    }

    public static void main(String[] args) {
        deeds();
        harmsAndPardons();
        setsAndDays();
        others();
        texts();
        noneOfOne();
        noneJustBeyond();
        onPaper();
        fullTape();
        CHECK.close();
    }
}
