import java.lang.reflect.Method;
import java.nio.charset.StandardCharsets;
import java.util.ArrayList;
import java.util.List;
import java.util.Random;

/** Runs of calls by chance, each asked of the class and of the Oracle; both have to answer alike. */
public final class OracleTest {
    private static final int RUNS = 400;
    private static final int CALLS = 512;
    private static final String[] DEEDS = {"folk", "terms", "force", "harm", "harm", "harm", "feast", "feast", "pardon",
        "pass", "undo", "undo", "sat", "forget", "seasons", "image", "back", "TEXT", "TEXT", "ROW"};
    private static final String[] ASKED = {"of", "asks", "largest", "tables", "newHarms", "leftOut", "seat", "chain",
        "circles", "bridges", "doubted", "fitting", "ask", "lasts", "fedBy", "few", "compare", "drawn", "count",
        "status", "crumbs", "fault", "stopped", "end"};

    private final Random draws;
    private final Texts texts;
    private final BrokenBread x = new BrokenBread();
    private final Oracle o = new Oracle();
    private final List<String> told = new ArrayList<>();
    private int calls = 0;
    private boolean alike = true;

    private OracleTest(long seed) {
        draws = new Random(seed);
        texts = new Texts(draws);
    }

    private static Method method(Class<?> in, String name) {
        for (Method m : in.getDeclaredMethods()) {
            if (m.getName().equals(name)) {
                m.setAccessible(true);
                return m;
            }
        }
        throw new IllegalStateException(name);
    }

    private int ask(String name, Object... args) throws ReflectiveOperationException {
        if (!alike || calls == CALLS) {
            return 0;
        }
        calls++;
        long got = ((Number) method(BrokenBread.class, name).invoke(x, args)).longValue();
        // The Oracle's own private helpers may bear the same name with other arguments; it has none of them.
        long want = ((Number) oracle(name, args.length).invoke(o, args)).longValue();
        told.add(name + java.util.Arrays.toString(args) + " -> " + got);
        if (got != want) {
            alike = false;
            told.add("  due is " + want);
        }
        return (int) want;
    }

    private static Method oracle(String name, int args) {
        for (Method m : Oracle.class.getDeclaredMethods()) {
            boolean shown = !java.lang.reflect.Modifier.isPrivate(m.getModifiers())
                    && !java.lang.reflect.Modifier.isStatic(m.getModifiers());
            if (shown && m.getName().equals(name) && m.getParameterCount() == args) {
                return m;
            }
        }
        throw new IllegalStateException(name);
    }

    private int small(int top) {
        switch (draws.nextInt(80)) {
            case 0: return draws.nextInt();
            case 1: return Integer.MIN_VALUE;
            case 2: return Integer.MAX_VALUE;
            default: return draws.nextInt(top + 2) - (draws.nextInt(4) == 0 ? 1 : 0);
        }
    }

    private void put(String text) throws ReflectiveOperationException {
        byte[] bytes = text.getBytes(StandardCharsets.ISO_8859_1);
        told.add("text: " + text);
        int length = 0;
        for (int from = 0; from < bytes.length; from += 20) {
            length = ask("feed", Check.word(bytes, from), Check.word(bytes, from + 4), Check.word(bytes, from + 8),
                    Check.word(bytes, from + 12), Check.word(bytes, from + 16));
        }
        if (length > 0 && draws.nextInt(30) != 0) {
            ask("end", Math.min(bytes.length, length));
        }
    }

    private void deed(String name) throws ReflectiveOperationException {
        switch (name) {
            case "folk": ask(name, draws.nextInt(4) == 0 ? small(9) : draws.nextInt(10)); break;
            case "terms":
                int what = small(2);
                ask(name, what, what == 0 && draws.nextInt(3) == 0 ? 990 + draws.nextInt(12) : small(10));
                break;
            case "force": ask(name, small(3)); break;
            case "harm": ask(name, small(6), small(6), small(8) + (draws.nextInt(3) == 0 ? 0 : 1)); break;
            case "feast": ask(name, draws.nextInt(3) == 0 ? small(127) : o.largest(1)); break;
            case "pardon": ask(name, small(6), small(6)); break;
            case "sat": ask(name, small(127)); break;
            case "seasons": ask(name, draws.nextInt(9) == 0 ? small(9) : draws.nextInt(1_000_001), small(60)); break;
            case "image": case "back": ask(name, small(1)); break;
            case "TEXT":
                boolean orders = draws.nextBoolean();
                put(texts.next(orders));
                if (ask(draws.nextInt(20) == 0 != orders ? "orders" : "law") >= 0 && !orders && draws.nextBoolean()) {
                    ask("force", o.count(4) - 1);
                }
                ask("fault");
                ask("stopped");
                break;
            case "ROW":
                StringBuilder bytes = new StringBuilder();
                for (int k = draws.nextInt(22); k > 0; k--) {
                    bytes.append((char) (draws.nextInt(12) == 0 ? draws.nextInt(256) : draws.nextInt(8)));
                }
                put(bytes.toString());
                ask("row");
                ask("crumbs");
                break;
            default: ask(name); break;
        }
    }

    private void query(String name) throws ReflectiveOperationException {
        switch (name) {
            case "of": ask(name, small(6), small(4)); break;
            case "asks": ask(name, small(6), small(6), small(4)); break;
            case "largest": case "leftOut": ask(name, small(1)); break;
            case "tables": case "newHarms": ask(name, small(7)); break;
            case "seat": ask(name, small(127), small(6)); break;
            case "chain": ask(name, small(6), small(6), draws.nextBoolean() ? -1 : small(6)); break;
            case "bridges": case "doubted": ask(name, draws.nextBoolean() ? -1 : small(6)); break;
            case "fitting": ask(name, draws.nextBoolean() ? 1 << draws.nextInt(7) : small(127)); break;
            case "ask": ask(name, draws.nextBoolean() ? draws.nextInt(8) : small(127), small(1)); break;
            case "lasts": ask(name, small(6)); break;
            case "fedBy": ask(name, small(10)); break;
            case "few": ask(name, small(20), small(99)); break;
            case "compare": ask(name, small(5)); break;
            case "drawn": ask(name, small(6), draws.nextBoolean() ? -1 : small(6)); break;
            case "count": ask(name, small(15)); break;
            case "end": if (draws.nextInt(10) == 0) ask(name, small(20)); break;
            default: ask(name); break;
        }
    }

    private void run() throws ReflectiveOperationException {
        int folks = draws.nextInt(8);
        for (int p = 0; p < folks; p++) {
            deed("folk");
        }
        int deeds = 1 + draws.nextInt(6);
        while (alike && calls < CALLS) {
            for (int k = 0; k < deeds; k++) {
                String name = DEEDS[draws.nextInt(DEEDS.length)];
                if (!name.equals("folk") || draws.nextInt(6) == 0) {
                    deed(name);
                }
            }
            for (int k = draws.nextInt(8); k > 0; k--) {
                query(ASKED[draws.nextInt(ASKED.length)]);
            }
        }
    }

    public static void main(String[] args) throws ReflectiveOperationException {
        int runs = args.length > 0 ? Integer.parseInt(args[0]) : RUNS;
        long first = args.length > 1 ? Long.parseLong(args[1]) : 1L;
        Check check = new Check("runs by chance against the Oracle");
        for (long seed = first; seed < first + runs; seed++) {
            OracleTest run = new OracleTest(seed);
            run.run();
            check.isSo("run " + seed, run.alike);
            if (!run.alike) {
                run.told.forEach(System.out::println);
                break;
            }
        }
        check.close();
    }
}
