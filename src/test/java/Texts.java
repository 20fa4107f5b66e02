import java.util.Random;

/** Makes TEXTS of both languages by chance, most of them whole, some spoiled. */
final class Texts {
    private static final String[] LAW_WORDS = {"doer", "other", "weight", "age", "fed", "size", "day", "mood"};
    private static final String[] ORDER_WORDS = {"day", "done", "latest", "harms", "starving"};
    private static final String[] STRAY = {"if", "or", "and", "not", "times", "to", "by", "counts", "bars", "pass",
        "harm", "(", ")", "[", "]", "<", "=", "+", "-", "%", "*", ";", "fed", "at", "at 6", "fed 7", "1000", "1001",
        "0", "007", "99999999999999999999", "weight", "done", "A", "?", "\t", "\u00e9", "pas", "passs", "ifday", ""};

    private final Random draws;
    private boolean orders;

    Texts(Random draws) {
        this.draws = draws;
    }

    private boolean rarely(int oneOf) {
        return draws.nextInt(oneOf) == 0;
    }

    private String gap() {
        return rarely(3) ? "  " : " ";
    }

    private String number() {
        switch (draws.nextInt(12)) {
            case 0: return "1000";
            case 1: return String.valueOf(draws.nextInt(1001));
            case 2: return "0" + draws.nextInt(10);
            default: return String.valueOf(draws.nextInt(10));
        }
    }

    private String part(int depth) {
        if (depth > 0 && rarely(5)) {
            return "[" + gap() + sum(depth - 1) + "]";
        }
        if (rarely(2)) {
            return number();
        }
        if (!orders) {
            return LAW_WORDS[draws.nextInt(LAW_WORDS.length)];
        }
        switch (draws.nextInt(4)) {
            case 0: return "fed " + draws.nextInt(7);
            case 1: return "at" + draws.nextInt(7);
            default: return ORDER_WORDS[draws.nextInt(ORDER_WORDS.length)];
        }
    }

    private String row(int longest, String[] signs, java.util.function.Supplier<String> piece) {
        StringBuilder text = new StringBuilder(piece.get());
        for (int k = draws.nextInt(longest); k > 0 && rarely(2); k--) {
            text.append(gap()).append(signs[draws.nextInt(signs.length)]).append(gap()).append(piece.get());
        }
        return text.toString();
    }

    private String term(int depth) {
        return row(5, new String[] {"*", "/", "%"}, () -> part(depth));
    }

    private String sum(int depth) {
        return row(4, new String[] {"+", "-"}, () -> term(depth));
    }

    private String plain(int depth) {
        if (rarely(6)) {
            return "not " + plain(depth);
        }
        if (depth > 0 && rarely(4)) {
            return "(" + test(depth - 1) + ")";
        }
        String sign = new String[] {"<", ">", "="}[draws.nextInt(3)];
        return sum(depth) + gap() + sign + sum(depth);
    }

    private String test(int depth) {
        return row(4, new String[] {"or"}, () -> row(4, new String[] {"and"}, () -> plain(depth)));
    }

    private String whom() {
        return rarely(6) ? sum(2) : String.valueOf(draws.nextInt(5));
    }

    private String set() {
        return rarely(4) ? sum(1) : rarely(2) ? "at " + draws.nextInt(5) + " + " + (1 << draws.nextInt(5))
                : String.valueOf(draws.nextInt(32));
    }

    private String clause(int depth) {
        StringBuilder text = new StringBuilder();
        if (!orders) {
            String head = new String[] {"counts", "feeds", "hungers", "bars"}[draws.nextInt(4)];
            text.append(head).append(head.equals("bars") ? "" : " " + sum(depth));
            if (head.equals("bars") || rarely(2)) {
                text.append(" if ").append(test(depth));
            }
            return text.toString();
        }
        switch (draws.nextInt(4)) {
            case 0:
                text.append("harm ").append(whom()).append(" to ").append(whom()).append(" by ")
                        .append(rarely(3) ? sum(1) : String.valueOf(1 + draws.nextInt(9)));
                break;
            case 1:
                text.append("feast ").append(set());
                break;
            case 2:
                text.append("pardon ").append(whom()).append(" to ").append(whom());
                break;
            default:
                text.append("pass");
                break;
        }
        if (rarely(4)) {
            text.append(" times ").append(1 + draws.nextInt(rarely(3) ? 20 : 3));
        }
        if (rarely(2)) {
            text.append(" if ").append(test(depth));
        }
        return text.toString();
    }

    private String spoiled(String text) {
        int at = draws.nextInt(text.length() + 1);
        switch (draws.nextInt(4)) {
            case 0:
                return text.substring(0, at);
            case 1:
                return text.substring(0, at) + STRAY[draws.nextInt(STRAY.length)] + text.substring(at);
            case 2:
                return text.substring(0, at) + " " + STRAY[draws.nextInt(STRAY.length)] + " " + text.substring(at);
            default:
                return text.substring(0, at) + text.substring(Math.min(text.length(), at + 1 + draws.nextInt(6)));
        }
    }

    private String deep() {
        int opened = 7 + draws.nextInt(4);
        int tests = draws.nextInt(opened + 1);
        String inner = "[".repeat(opened - tests) + "1" + "]".repeat(opened - tests);
        return (orders ? "pass if " : "bars if ") + "(".repeat(tests) + inner + " = 1" + ")".repeat(tests);
    }

    private String wide() {
        String word = orders ? rarely(2) ? "fed 1" : "day" : "fed";
        return (orders ? "pass if 1 > 0 or " : "counts 1 + 1 - ") + (word + "+").repeat(45 + draws.nextInt(6)) + "1"
                + (orders ? " = 3" : "");
    }

    String next(boolean asOrders) {
        orders = asOrders;
        if (rarely(25)) {
            return rarely(2) ? deep() : wide();
        }
        int clauses = rarely(12) ? 11 + draws.nextInt(3) : 1 + draws.nextInt(4);
        StringBuilder text = new StringBuilder();
        for (int k = 0; k < clauses; k++) {
            text.append(k > 0 ? ";" : "").append(clauses > 9 ? orders ? "pass" : "counts 1" : clause(draws.nextInt(4)));
        }
        String whole = text.toString();
        if (rarely(6)) {
            whole = spoiled(whole);
        }
        return whole.length() > 400 ? whole.substring(0, 400) : whole;
    }
}
