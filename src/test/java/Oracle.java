import java.util.ArrayDeque;
import java.util.ArrayList;
import java.util.Arrays;
import java.util.Deque;
import java.util.List;
import java.util.Map;
import java.util.TreeMap;
import java.util.function.ToIntFunction;

/**
 * The document once more, written apart from the class: trees in place of code, whole states in place of
 * deeds undone, all rows tried in place of searches that are cut short. It may throw inside.
 */
final class Oracle {
    static final class Bad extends RuntimeException {
        private static final long serialVersionUID = 1L;
        final int code;

        Bad(int code) {
            super(null, null, false, false);
            this.code = code;
        }
    }

    static final class Fault extends RuntimeException {
        private static final long serialVersionUID = 1L;
        final int place;

        Fault(int place) {
            super(null, null, false, false);
            this.place = place;
        }
    }

    static final class Broken extends RuntimeException {
        private static final long serialVersionUID = 1L;

        Broken() {
            super(null, null, false, false);
        }
    }

    interface Sum {
        long of(ToIntFunction<String> words);
    }

    interface Test {
        boolean of(ToIntFunction<String> words);
    }

    static final class Clause {
        String kind;
        List<Sum> sums = new ArrayList<>();
        int times = 1;
        Test test = w -> true;
    }

    static final class State {
        List<Integer> fed = new ArrayList<>();
        Map<Integer, int[]> harms = new TreeMap<>();
        int[] terms = {0, 1, 0};
        List<Integer> sat = new ArrayList<>();
        List<List<Clause>> laws = new ArrayList<>();
        int force = -1;

        State copy() {
            State s = new State();
            s.fed.addAll(fed);
            harms.forEach((k, v) -> s.harms.put(k, v.clone()));
            s.terms = terms.clone();
            s.sat.addAll(sat);
            s.laws.addAll(laws);
            s.force = force;
            return s;
        }

        int n() {
            return fed.size();
        }
    }

    State now = new State();
    Deque<Object[]> past = new ArrayDeque<>();
    List<Integer> tape = new ArrayList<>();
    State[] images = new State[2];
    State season = null;
    int crumbs = 0;
    int fault = -1;
    int stopped = -1;
    int status = 0;
    int[] refused = new int[7];

    // ---------------------------------------------------------------- reading

    private List<String> tokens;
    private List<Integer> places;
    private int at;
    private int parts;
    private boolean orders;

    private void split() {
        tokens = new ArrayList<>();
        places = new ArrayList<>();
        int i = 0;
        while (i < tape.size()) {
            int b = tape.get(i);
            if (b == 32) {
                i++;
                continue;
            }
            int j = i + 1;
            int c = sort(b);
            while (c != 0 && j < tape.size() && sort(tape.get(j)) == c) {
                j++;
            }
            StringBuilder t = new StringBuilder();
            for (int k = i; k < j; k++) {
                t.append((char) (int) tape.get(k));
            }
            tokens.add(t.toString());
            places.add(i);
            i = j;
        }
        tokens.add("");
        places.add(tape.size());
    }

    private static int sort(int b) {
        return b >= 'a' && b <= 'z' ? 1 : b >= '0' && b <= '9' ? 2 : 0;
    }

    private String peek() {
        return tokens.get(at);
    }

    private boolean eat(String t) {
        if (peek().equals(t)) {
            at++;
            return true;
        }
        return false;
    }

    private void need(String t) {
        if (!eat(t)) {
            throw wrong();
        }
    }

    private Fault wrong() {
        return new Fault(places.get(at));
    }

    private int number(int low, int high) {
        String t = peek();
        if (t.isEmpty() || sort(t.charAt(0)) != 2) {
            throw wrong();
        }
        java.math.BigInteger v = new java.math.BigInteger(t);
        if (v.compareTo(java.math.BigInteger.valueOf(low)) < 0 || v.compareTo(java.math.BigInteger.valueOf(high)) > 0) {
            throw wrong();
        }
        at++;
        return v.intValue();
    }

    private List<Clause> read(boolean asOrders) {
        split();
        orders = asOrders;
        at = 0;
        parts = 0;
        List<Clause> all = new ArrayList<>();
        do {
            if (all.size() == 12) {
                throw wrong();
            }
            all.add(clause());
        } while (eat(";"));
        if (at != tokens.size() - 1) {
            throw wrong();
        }
        return all;
    }

    private Clause clause() {
        Clause c = new Clause();
        c.kind = peek();
        if (orders) {
            if (eat("harm")) {
                c.sums.add(sum(0));
                need("to");
                c.sums.add(sum(0));
                need("by");
                c.sums.add(sum(0));
            } else if (eat("feast")) {
                c.sums.add(sum(0));
            } else if (eat("pardon")) {
                c.sums.add(sum(0));
                need("to");
                c.sums.add(sum(0));
            } else {
                need("pass");
            }
            if (eat("times")) {
                c.times = number(1, 20);
            }
        } else if (eat("counts") || eat("feeds") || eat("hungers")) {
            c.sums.add(sum(0));
        } else {
            need("bars");
        }
        if (eat("if")) {
            c.test = test(0);
        }
        return c;
    }

    private Test test(int depth) {
        Test left = both(depth);
        while (eat("or")) {
            Test l = left;
            Test r = both(depth);
            left = w -> l.of(w) || r.of(w);
        }
        return left;
    }

    private Test both(int depth) {
        Test left = plain(depth);
        while (eat("and")) {
            Test l = left;
            Test r = plain(depth);
            left = w -> l.of(w) && r.of(w);
        }
        return left;
    }

    private Test plain(int depth) {
        if (eat("not")) {
            Test t = plain(depth);
            return w -> !t.of(w);
        }
        if (peek().equals("(")) {
            if (depth == 8) {
                throw wrong();
            }
            at++;
            Test t = test(depth + 1);
            need(")");
            return t;
        }
        Sum l = sum(depth);
        String sign = peek();
        if (!sign.equals("<") && !sign.equals(">") && !sign.equals("=")) {
            throw wrong();
        }
        at++;
        Sum r = sum(depth);
        return w -> {
            long a = l.of(w);
            long b = r.of(w);
            return sign.equals("<") ? a < b : sign.equals(">") ? a > b : a == b;
        };
    }

    private static long within(long v) {
        if (Math.abs(v) > 1_000_000_000L) {
            throw new Broken();
        }
        return v;
    }

    private static Sum joined(String sign, Sum l, Sum r) {
        return w -> {
            long a = l.of(w);
            long b = r.of(w);
            if ((sign.equals("/") || sign.equals("%")) && b == 0) {
                throw new Broken();
            }
            switch (sign) {
                case "+": return within(a + b);
                case "-": return within(a - b);
                case "*": return within(a * b);
                case "/": return within(a / b);
                default: return within(a % b);
            }
        };
    }

    private Sum sum(int depth) {
        Sum left = term(depth);
        while (peek().equals("+") || peek().equals("-")) {
            String sign = tokens.get(at++);
            left = joined(sign, left, term(depth));
        }
        return left;
    }

    private Sum term(int depth) {
        Sum left = part(depth);
        while (peek().equals("*") || peek().equals("/") || peek().equals("%")) {
            String sign = tokens.get(at++);
            left = joined(sign, left, part(depth));
        }
        return left;
    }

    private Sum part(int depth) {
        if (peek().equals("[")) {
            if (depth == 8) {
                throw wrong();
            }
            at++;
            Sum s = sum(depth + 1);
            need("]");
            return s;
        }
        if (++parts > 50) {
            throw wrong();
        }
        String t = peek();
        if (!t.isEmpty() && sort(t.charAt(0)) == 2) {
            long v = number(0, 1000);
            return w -> v;
        }
        List<String> plain = orders ? List.of("day", "done", "latest", "harms", "starving")
                : List.of("doer", "other", "weight", "age", "fed", "size", "day", "mood");
        if (plain.contains(t)) {
            at++;
            return w -> w.applyAsInt(t);
        }
        if (orders && (t.equals("fed") || t.equals("at"))) {
            at++;
            String word = t + number(0, 6);
            return w -> w.applyAsInt(word);
        }
        throw wrong();
    }

    // ---------------------------------------------------------------- laws

    private static Integer lastTells(State s, int law, String kind, ToIntFunction<String> words) {
        Integer tells = null;
        if (law < 0) {
            return null;
        }
        for (Clause c : s.laws.get(law)) {
            if (c.kind.equals(kind)) {
                try {
                    if (c.test.of(words)) {
                        long v = c.sums.isEmpty() ? 1 : c.sums.get(0).of(words);
                        tells = (int) Math.max(0, Math.min(9, v));
                    }
                } catch (Broken e) {
                    // it does not hold
                }
            }
        }
        return tells;
    }

    private static ToIntFunction<String> pairWords(State s, int doer, int other) {
        int[] h = s.harms.get(doer * 10 + other);
        return w -> {
            switch (w) {
                case "doer": return doer;
                case "other": return other;
                case "weight": return h == null ? 0 : h[0];
                case "age": return h == null ? -1 : s.terms[0] - h[1];
                case "fed": return s.fed.get(doer);
                case "day": return s.terms[0];
                case "mood": return s.terms[2];
                default: return -1;
            }
        };
    }

    private static ToIntFunction<String> oneWords(State s, int doer, int fed, int size, int day) {
        return w -> {
            switch (w) {
                case "doer": return doer;
                case "fed": return fed;
                case "size": return size;
                case "day": return day;
                case "mood": return s.terms[2];
                default: return -1;
            }
        };
    }

    static int counts(State s, int law, int a, int b) {
        Integer t = lastTells(s, law, "counts", pairWords(s, a, b));
        int[] h = s.harms.get(a * 10 + b);
        return t != null ? t : h == null ? 0 : h[0];
    }

    static boolean bars(State s, int law, int a, int b) {
        return lastTells(s, law, "bars", pairWords(s, a, b)) != null;
    }

    static boolean may(State s, int law, int a, int b) {
        return a != b && counts(s, law, a, b) + counts(s, law, b, a) > 0 && !bars(s, law, a, b) && !bars(s, law, b, a);
    }

    static int hungers(State s, int p, int fed, int day) {
        Integer t = lastTells(s, s.force, "hungers", oneWords(s, p, fed, -1, day));
        return t == null ? 1 : t;
    }

    static boolean isTable(State s, int law, int set) {
        List<Integer> who = members(set);
        for (int a : who) {
            for (int b : who) {
                if (a != b && !may(s, law, a, b)) {
                    return false;
                }
            }
        }
        return who.size() > 1;
    }

    static List<Integer> members(int set) {
        List<Integer> who = new ArrayList<>();
        for (int p = 0; p < 31; p++) {
            if ((set & 1 << p) != 0) {
                who.add(p);
            }
        }
        return who;
    }

    static void eat(State s, int set) {
        State was = s.copy();
        for (int p : members(set)) {
            Integer t = lastTells(was, was.force, "feeds", oneWords(was, p, was.fed.get(p), members(set).size(), was.terms[0]));
            s.fed.set(p, Math.min(9, was.fed.get(p) + (t == null ? 2 : t)));
        }
    }

    static void day(State s) {
        State was = s.copy();
        for (int p = 0; p < s.n(); p++) {
            s.fed.set(p, Math.max(0, was.fed.get(p) - hungers(was, p, was.fed.get(p), was.terms[0])));
        }
        s.terms[0]++;
    }

    static int starving(State s) {
        return (int) s.fed.stream().filter(f -> f == 0).count();
    }

    // ---------------------------------------------------------------- calls that may be refused

    private interface Deed {
        int run();
    }

    private int call(Deed d) {
        try {
            int answer = d.run();
            status = 0;
            return answer;
        } catch (Bad e) {
            status = e.code;
            refused[-e.code]++;
            return e.code;
        }
    }

    private static void refuse(boolean when, int code) {
        if (when) {
            throw new Bad(code);
        }
    }

    private boolean there(int p) {
        return p >= 0 && p < now.n();
    }

    private boolean allThere(int set) {
        return set >= 0 && set <= 127 && members(set).stream().allMatch(this::there);
    }

    int folk(int fed) {
        return call(() -> {
            refuse(fed < 0 || fed > 9, -1);
            refuse(now.n() == 7, -5);
            now.fed.add(fed);
            past.clear();
            return now.n() - 1;
        });
    }

    int terms(int what, int value) {
        return call(() -> {
            refuse(what < 0 || what > 2 || value < 0 || value > new int[] {999, 10, 9}[what], -1);
            int was = now.terms[what];
            now.terms[what] = value;
            past.clear();
            return was;
        });
    }

    int feed(int a, int b, int c, int d, int e) {
        if (tape.size() + 20 > 400) {
            return -1;
        }
        for (int v : new int[] {a, b, c, d, e}) {
            for (int k = 3; k >= 0; k--) {
                tape.add(v >>> 8 * k & 255);
            }
        }
        return tape.size();
    }

    int end(int n) {
        if (n < 0 || n > tape.size()) {
            return -1;
        }
        tape = new ArrayList<>(tape.subList(0, n));
        return n;
    }

    int row() {
        return call(() -> {
            refuse(tape.isEmpty(), -6);
            int done = 0;
            crumbs = 0;
            for (int i = 0; i < tape.size(); i += 3) {
                boolean good = i + 2 < tape.size();
                if (good) {
                    int a = tape.get(i);
                    int b = tape.get(i + 1);
                    int w = tape.get(i + 2);
                    good = there(a) && there(b) && a != b && w >= 1 && w <= 9;
                    if (good) {
                        now.harms.put(a * 10 + b, new int[] {w, now.terms[0]});
                        done++;
                    }
                }
                crumbs += good ? 0 : 1;
            }
            tape.clear();
            past.clear();
            return done;
        });
    }

    int crumbs() {
        return crumbs;
    }

    int law() {
        return call(() -> {
            try {
                refuse(now.laws.size() == 6, -5);
                now.laws.add(readKept(false));
                return now.laws.size() - 1;
            } finally {
                tape.clear();
            }
        });
    }

    private List<Clause> readKept(boolean asOrders) {
        try {
            List<Clause> text = read(asOrders);
            fault = -1;
            return text;
        } catch (Fault f) {
            fault = f.place;
            throw new Bad(-6);
        } finally {
            tape.clear();
        }
    }

    private int done;
    private int latest;

    private int orderWord(String w) {
        switch (w) {
            case "day": return now.terms[0];
            case "done": return done;
            case "latest": return latest;
            case "harms": return now.harms.size();
            case "starving": return starving(now);
            default:
                int p = w.charAt(w.length() - 1) - '0';
                if (!there(p)) {
                    return -1;
                }
                if (w.startsWith("fed")) {
                    return now.fed.get(p);
                }
                return withWhom(now.force, p);
        }
    }

    private int withWhom(int law, int p) {
        int set = 0;
        for (int q = 0; q < now.n(); q++) {
            set |= may(now, law, p, q) ? 1 << q : 0;
        }
        return set;
    }

    int orders() {
        return call(() -> {
            stopped = -1;
            List<Clause> text = readKept(true);
            State was = now.copy();
            Deque<Object[]> pastWas = new ArrayDeque<>(past);
            done = 0;
            latest = -1;
            for (int c = 0; c < text.size(); c++) {
                for (int k = 0; k < text.get(c).times; k++) {
                    boolean so;
                    try {
                        so = text.get(c).test.of(this::orderWord);
                    } catch (Broken e) {
                        so = false;
                    }
                    if (!so) {
                        continue;
                    }
                    try {
                        int[] v = text.get(c).sums.stream().mapToInt(s -> (int) s.of(this::orderWord)).toArray();
                        switch (text.get(c).kind) {
                            case "harm": doHarm(v[0], v[1], v[2]); break;
                            case "feast": latest = doFeast(v[0]); break;
                            case "pardon": doPardon(v[0], v[1]); break;
                            default: doPass();
                        }
                        done++;
                    } catch (Broken | Bad e) {
                        stopped = c;
                        now = was;
                        past = pastWas;
                        throw new Bad(-3);
                    }
                }
            }
            return done;
        });
    }

    int fault() {
        return fault;
    }

    int stopped() {
        return stopped;
    }

    int force(int law) {
        return call(() -> {
            refuse(law < -1 || law >= now.laws.size(), -2);
            int was = now.force;
            now.force = law;
            return was;
        });
    }

    private void remember(int kind) {
        past.addLast(new Object[] {kind, now.copy()});
        if (past.size() > 16) {
            past.removeFirst();
        }
    }

    private int doHarm(int a, int b, int w) {
        refuse(w < 1 || w > 9 || a == b, -1);
        refuse(!there(a) || !there(b), -2);
        int[] h = now.harms.get(a * 10 + b);
        refuse(h != null && h[0] == w, -3);
        remember(0);
        now.harms.put(a * 10 + b, new int[] {w, now.terms[0]});
        return h == null ? 0 : h[0];
    }

    private int doFeast(int set) {
        refuse(set < 0 || set > 127, -1);
        refuse(!allThere(set), -2);
        refuse(!isTable(now, now.force, set), -3);
        remember(1);
        eat(now, set);
        return members(set).size();
    }

    private int doPardon(int a, int b) {
        refuse(a == b, -1);
        refuse(!there(a) || !there(b), -2);
        int[] h = now.harms.get(a * 10 + b);
        refuse(h == null, -3);
        remember(2);
        now.harms.remove(a * 10 + b);
        return h[0];
    }

    private int doPass() {
        refuse(now.terms[0] == 999, -3);
        remember(3);
        day(now);
        return starving(now);
    }

    int harm(int a, int b, int w) {
        return call(() -> doHarm(a, b, w));
    }

    int feast(int set) {
        return call(() -> doFeast(set));
    }

    int pardon(int a, int b) {
        return call(() -> doPardon(a, b));
    }

    int pass() {
        return call(this::doPass);
    }

    int undo() {
        return call(() -> {
            refuse(past.isEmpty(), -3);
            Object[] last = past.removeLast();
            State then = (State) last[1];
            now.fed = then.fed;
            now.harms = then.harms;
            now.terms[0] = then.terms[0];
            return (Integer) last[0];
        });
    }

    // ---------------------------------------------------------------- on paper

    int of(int p, int what) {
        if (!there(p)) {
            return -1;
        }
        switch (what) {
            case 0: return now.fed.get(p);
            case 1: return withWhom(now.force, p);
            case 2: return hungers(now, p, now.fed.get(p), now.terms[0]);
            case 3: return (int) now.harms.keySet().stream().filter(k -> k / 10 == p).count();
            case 4: return (int) now.harms.keySet().stream().filter(k -> k % 10 == p).count();
            default: return -1;
        }
    }

    int asks(int a, int b, int what) {
        if (!there(a) || !there(b) || a == b) {
            return -1;
        }
        int[] h = now.harms.get(a * 10 + b);
        switch (what) {
            case 0: return h == null ? 0 : h[0];
            case 1: return h == null ? -1 : h[1];
            case 2: return counts(now, now.force, a, b);
            case 3: return bars(now, now.force, a, b) ? 1 : 0;
            case 4: return may(now, now.force, a, b) ? 1 : 0;
            default: return -1;
        }
    }

    private int largestBy(int law) {
        int best = 0;
        for (int set = 127; set > 0; set--) {
            if (allThere(set) && members(set).size() >= members(best).size() && isTable(now, law, set)) {
                best = set;
            }
        }
        return best;
    }

    int largest(int what) {
        int best = largestBy(now.force);
        return best == 0 ? -1 : what == 0 ? members(best).size() : what == 1 ? best : -1;
    }

    /** All rows of n numbers that number sets as they first come, in their order. */
    private static void rows(int n, List<Integer> row, List<List<Integer>> into) {
        if (row.size() == n) {
            into.add(new ArrayList<>(row));
            return;
        }
        int next = row.stream().mapToInt(v -> v + 1).max().orElse(0);
        for (int v = 0; v <= next; v++) {
            row.add(v);
            rows(n, row, into);
            row.remove(row.size() - 1);
        }
    }

    private int[] setsOf(List<Integer> row) {
        int[] sets = new int[row.stream().mapToInt(v -> v + 1).max().orElse(0)];
        for (int p = 0; p < row.size(); p++) {
            sets[row.get(p)] |= 1 << p;
        }
        return sets;
    }

    private static int fromRow(List<Integer> row, int price, int what) {
        if (row == null || what < 0 || what > row.size()) {
            return -1;
        }
        return what == 0 ? price : row.get(what - 1);
    }

    int tables(int what) {
        boolean[] table = new boolean[128];
        for (int set = 0; set < 1 << now.n(); set++) {
            table[set] = isTable(now, now.force, set);
        }
        List<List<Integer>> all = new ArrayList<>();
        rows(now.n(), new ArrayList<>(), all);
        List<Integer> best = null;
        int price = 99;
        for (List<Integer> row : all) {
            int[] sets = setsOf(row);
            if (Arrays.stream(sets).allMatch(s -> table[s]) && sets.length < price) {
                price = sets.length;
                best = row;
            }
        }
        return fromRow(best, price, what);
    }

    int newHarms(int what) {
        int n = now.n();
        boolean[][] may = new boolean[n][n];
        boolean[][] bars = new boolean[n][n];
        for (int a = 0; a < n; a++) {
            for (int b = 0; b < n; b++) {
                may[a][b] = may(now, now.force, a, b);
                bars[a][b] = a != b && bars(now, now.force, a, b);
            }
        }
        List<List<Integer>> all = new ArrayList<>();
        rows(n, new ArrayList<>(), all);
        List<Integer> best = null;
        int price = 99;
        for (List<Integer> row : all) {
            boolean good = Arrays.stream(setsOf(row)).allMatch(s -> members(s).size() > 1);
            int harms = 0;
            for (int a = 0; a < n; a++) {
                for (int b = a + 1; b < n; b++) {
                    if (row.get(a).equals(row.get(b))) {
                        good &= !bars[a][b] && !bars[b][a];
                        harms += may[a][b] ? 0 : 1;
                    }
                }
            }
            if (good && harms < price) {
                price = harms;
                best = row;
            }
        }
        return fromRow(best, price, what);
    }

    private boolean canBeParted(int set) {
        if (set == 0) {
            return true;
        }
        for (int t = 1; t <= set; t++) {
            if ((t & ~set) == 0 && isTable(now, now.force, t) && canBeParted(set & ~t)) {
                return true;
            }
        }
        return false;
    }

    int leftOut(int what) {
        int all = (1 << now.n()) - 1;
        for (int k = 0; k <= now.n(); k++) {
            for (int out = 0; out <= all; out++) {
                if (members(out).size() == k && canBeParted(all & ~out)) {
                    return what == 0 ? k : what == 1 ? out : -1;
                }
            }
        }
        throw new IllegalStateException();
    }

    int seat(int set, int i) {
        if (!allThere(set) || i < 0 || i >= members(set).size()) {
            return -1;
        }
        List<Integer> who = members(set);
        Map<Integer, Integer> hurt = new TreeMap<>();
        for (int p : who) {
            hurt.put(p, who.stream().filter(q -> q != p).mapToInt(q -> counts(now, now.force, q, p)).sum());
        }
        who.sort((a, b) -> !hurt.get(a).equals(hurt.get(b)) ? hurt.get(b) - hurt.get(a) : a - b);
        return who.get(i);
    }

    private List<Integer> chainOf(int from, int to) {
        Deque<List<Integer>> open = new ArrayDeque<>();
        open.add(List.of(from));
        // Rows of one length are taken in their order, so the first that ends at the other one is the first.
        while (!open.isEmpty()) {
            List<Integer> row = open.removeFirst();
            int last = row.get(row.size() - 1);
            if (last == to) {
                return row.subList(1, row.size());
            }
            for (int q = 0; q < now.n(); q++) {
                if (!row.contains(q) && may(now, now.force, last, q)) {
                    List<Integer> more = new ArrayList<>(row);
                    more.add(q);
                    open.addLast(more);
                }
            }
        }
        return null;
    }

    int chain(int from, int to, int i) {
        if (!there(from) || !there(to)) {
            return -1;
        }
        List<Integer> row = chainOf(from, to);
        if (row == null || i < -1 || i >= row.size()) {
            return -1;
        }
        return i == -1 ? row.size() : row.get(i);
    }

    private static int circlesOf(boolean[][] may) {
        int n = may.length;
        int[] of = new int[n];
        for (int p = 0; p < n; p++) {
            of[p] = p;
        }
        for (int a = 0; a < n; a++) {
            for (int b = 0; b < n; b++) {
                if (may[a][b] && of[a] != of[b]) {
                    int x = of[a];
                    int y = of[b];
                    for (int p = 0; p < n; p++) {
                        of[p] = of[p] == x ? y : of[p];
                    }
                }
            }
        }
        return (int) Arrays.stream(of).distinct().count();
    }

    private boolean[][] mays() {
        boolean[][] may = new boolean[now.n()][now.n()];
        for (int a = 0; a < now.n(); a++) {
            for (int b = 0; b < now.n(); b++) {
                may[a][b] = may(now, now.force, a, b);
            }
        }
        return may;
    }

    int circles() {
        return circlesOf(mays());
    }

    private static int ith(List<Integer> row, int i) {
        return i == -1 ? row.size() : i < 0 || i >= row.size() ? -1 : row.get(i);
    }

    int bridges(int i) {
        boolean[][] may = mays();
        List<Integer> found = new ArrayList<>();
        for (int a = 0; a < now.n(); a++) {
            for (int b = a + 1; b < now.n(); b++) {
                if (may[a][b]) {
                    int was = circlesOf(may);
                    may[a][b] = may[b][a] = false;
                    if (circlesOf(may) > was) {
                        found.add(a * 10 + b);
                    }
                    may[a][b] = may[b][a] = true;
                }
            }
        }
        return ith(found, i);
    }

    int sat(int set) {
        return call(() -> {
            refuse(set < 0 || set > 127 || members(set).size() < 2, -1);
            refuse(!allThere(set), -2);
            refuse(now.sat.size() == 6, -5);
            now.sat.add(set);
            return now.sat.size();
        });
    }

    int forget() {
        int was = now.sat.size();
        now.sat.clear();
        return was;
    }

    int doubted(int i) {
        java.util.TreeSet<Integer> found = new java.util.TreeSet<>();
        for (int set : now.sat) {
            for (int a : members(set)) {
                for (int b : members(set)) {
                    if (a < b && !may(now, now.force, a, b)) {
                        found.add(a * 10 + b);
                    }
                }
            }
        }
        return ith(new ArrayList<>(found), i);
    }

    int fitting(int set) {
        if (!allThere(set)) {
            return -1;
        }
        int fits = 0;
        for (int p = 0; p < now.n(); p++) {
            boolean all = !members(set).contains(p);
            for (int q : members(set)) {
                all &= may(now, now.force, p, q);
            }
            fits |= all ? 1 << p : 0;
        }
        return fits;
    }

    int ask(int set, int what) {
        int fits = fitting(set);
        if (fits <= 0 || what < 0 || what > 1) {
            return -1;
        }
        int all = members(fits).size();
        int best = -1;
        int bestHas = 0;
        for (int p = now.n() - 1; p >= 0; p--) {
            int has = 0;
            for (int q : members(fits)) {
                has += may(now, now.force, p, q) ? 1 : 0;
            }
            if (best < 0 || Math.abs(2 * has - all) <= Math.abs(2 * bestHas - all)) {
                best = p;
                bestHas = has;
            }
        }
        return what == 0 ? best : bestHas;
    }

    int lasts(int p) {
        if (!there(p)) {
            return -1;
        }
        State s = now.copy();
        for (int d = 0; d <= 100; d++) {
            if (s.fed.get(p) == 0) {
                return d;
            }
            day(s);
        }
        return -1;
    }

    int fedBy(int f) {
        if (f < 0 || f > 10) {
            return -1;
        }
        int hungry = 0;
        for (int p = 0; p < now.n(); p++) {
            hungry |= now.fed.get(p) < f ? 1 << p : 0;
        }
        List<Integer> all = new ArrayList<>();
        for (int set = 0; set < 1 << now.n(); set++) {
            if (isTable(now, now.force, set)) {
                all.add(set);
            }
        }
        boolean[] reached = new boolean[128];
        reached[0] = true;
        for (int k = 0; k <= 8; k++) {
            boolean[] next = new boolean[128];
            for (int set = 0; set < 128; set++) {
                if (reached[set]) {
                    if ((hungry & ~set) == 0) {
                        return k;
                    }
                    for (int t : all) {
                        next[set | t] = true;
                    }
                }
            }
            reached = next;
        }
        return -1;
    }

    long few(int k, int n) {
        if (k < 1 || k > 20 || n < 0 || n > 99) {
            return -1;
        }
        long[] parts = new long[101];
        parts[0] = 1_000_000_000_000L;
        int t = now.terms[1];
        for (int g = 0; g < n; g++) {
            long[] next = new long[101];
            for (int j = 0; j < 100; j++) {
                next[j] += parts[j] * (10 - t) / 10;
                next[j + 1] += parts[j] * t / 10;
            }
            parts = next;
        }
        return Arrays.stream(parts, 0, k).sum();
    }

    int compare(int law) {
        return law < -1 || law >= now.laws.size() ? -1 : members(largestBy(law)).size();
    }

    int seasons(int seed, int n) {
        return call(() -> {
            refuse(seed < 0 || seed > 1_000_000 || n < 1 || n > 60, -1);
            refuse(now.n() == 0, -3);
            State s = now.copy();
            long[] draw = {seed};
            for (int k = 0; k < n; k++) {
                if (s.terms[0] == 999) {
                    break;
                }
                int a = draw(draw, s.n());
                int b = draw(draw, s.n());
                int w = draw(draw, 9) + 1;
                int deed = draw(draw, 4);
                if (a != b) {
                    int[] h = s.harms.get(a * 10 + b);
                    if (deed < 2 && (h == null || h[0] != w)) {
                        s.harms.put(a * 10 + b, new int[] {w, s.terms[0]});
                    }
                    if (deed == 2 && isTable(s, s.force, 1 << a | 1 << b)) {
                        eat(s, 1 << a | 1 << b);
                    }
                    if (deed == 3) {
                        s.harms.remove(a * 10 + b);
                    }
                }
                day(s);
            }
            season = s;
            return starving(s);
        });
    }

    private static int draw(long[] s, int m) {
        s[0] = (s[0] * 1103 + 12345) % 1_000_003;
        return (int) (s[0] % m);
    }

    int drawn(int a, int b) {
        if (season == null || a < 0 || a >= season.n() || b < -1 || b >= season.n() || a == b) {
            return -1;
        }
        if (b == -1) {
            return season.fed.get(a);
        }
        int[] h = season.harms.get(a * 10 + b);
        return h == null ? 0 : h[0];
    }

    int image(int k) {
        return call(() -> {
            refuse(k < 0 || k > 1, -1);
            images[k] = now.copy();
            return 0;
        });
    }

    int back(int k) {
        return call(() -> {
            refuse(k < 0 || k > 1, -1);
            refuse(images[k] == null, -2);
            now = images[k].copy();
            past.clear();
            return 0;
        });
    }

    int count(int what) {
        switch (what) {
            case 0: return now.n();
            case 1: return now.harms.size();
            case 2: return starving(now);
            case 3: return now.sat.size();
            case 4: return now.laws.size();
            case 5: return past.size();
            case 6: return tape.size();
            case 7: return refused[1];
            case 8: return refused[2];
            case 9: return refused[3];
            case 10: return refused[5];
            case 11: return refused[6];
            case 12: return now.force;
            case 13: return now.terms[0];
            case 14: return now.terms[1];
            case 15: return now.terms[2];
            default: return -1;
        }
    }

    int status() {
        return status;
    }
}
