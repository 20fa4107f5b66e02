/**
 * Boundary cases of both languages and of promises 6 to 13, one sentence of the document after the other; what
 * stands in front of a colon is the promise, or the part of the Terms.
 */
public final class EdgesOfTextsTest {
    private static final Check CHECK = new Check("edges of texts");

    private static void due(String what, long got, long want) {
        CHECK.due(what, got, want);
    }

    private static String times(String part, int times) {
        return Check.repeated(part, times);
    }

    /** A LAW's FAULT (-1: it is one). */
    private static void law(String sentence, String text, int place) {
        BrokenBread x = new BrokenBread();
        due(sentence + ", law: " + text, Check.law(x, text), place < 0 ? 0 : -6);
        due(sentence + ", its fault: " + text, x.fault(), place);
        due(sentence + ", how many LAWS: " + text, x.count(4), place < 0 ? 1 : 0);
    }

    /** The FAULT of ORDERS (-1: they are read, and run or not). */
    private static void orders(String sentence, String text, int place) {
        BrokenBread x = new BrokenBread();
        int answer = Check.orders(x, text);
        CHECK.isSo(sentence + ", orders: " + text, (answer == -6) == (place >= 0));
        due(sentence + ", their fault: " + text, x.fault(), place);
    }

    /** Both languages: a TEST behind each one's "if"; the place is that within the TEST (-1: it is one). */
    private static void test(String sentence, String text, int place) {
        law(sentence, "bars if " + text, place < 0 ? -1 : 8 + place);
        orders(sentence, "pass if " + text, place < 0 ? -1 : 8 + place);
    }

    private static void tape() {
        String sentence = "II: TEXTS are on a TAPE of at most 400 bytes";
        law(sentence, "bars" + times(" ", 396), -1);
        law(sentence, times(" ", 396) + "bars", -1);
        law(sentence, times(" ", 394) + "counts", 400);
        orders(sentence, times(" ", 396) + "pass", -1);
        law(sentence, times(" ", 400), 400);
        law(sentence, times("x", 400), 0);
        law(sentence, times(";", 400), 0);
        law(sentence, "bars;" + times("1", 395), 5);
        BrokenBread x = new BrokenBread();
        for (int k = 0; k < 20; k++) {
            x.feed(0x20202020, 0x20202020, 0x20202020, 0x20202020, 0x20202020);
        }
        due("6: NONE, if there would be more than 400", x.feed(0, 0, 0, 0, 0), -1);
        due("7: it has 400", x.end(400), 400);
        due("7: it has not 401", x.end(401), -1);
        due("7: its first n bytes alone", x.end(399), 399);
        due("7: it has not so many any more", x.end(400), -1);
        due("6: more than 400 by 19", x.feed(0, 0, 0, 0, 0), -1);
        due("7: as many as leave room for 19", x.end(381), 381);
        due("6: more than 400 by 1", x.feed(0, 0, 0, 0, 0), -1);
        due("7: as many as leave room", x.end(380), 380);
        due("6: 400 are no more than 400", x.feed(0, 0, 0, 0, 0), 400);
        due("7: none", x.end(0), 0);
        due("7: none of none", x.end(0), 0);
        due("7: one of none", x.end(1), -1);
        due("7: below 0", x.end(-1), -1);
        due("6: behind the TAPE", x.feed(0x62617273, 0, 0, 0, 0), 20);
        x.end(4);
        due("6: behind its four", x.feed(0x20696620, 0x313d3120, 0x20202020, 0x20202020, 0x20202020), 24);
        due("6: what was cut off is gone", x.law(), 0);
    }

    private static void bytes() {
        BrokenBread x = Check.upland(1, 2, 3, 4, 5, 6, 7);
        x.feed(0x00060901, 0x02030405, 0x07060008, 0x05060705, 0x06fffefd);
        due("6: four of each number, the highest first", x.row(), 5);
        due("9: WEIGHT 255, and two bytes at the end", x.crumbs(), 2);
        int[][] want = {{0, 6, 9}, {1, 2, 3}, {4, 5, 7}, {6, 0, 8}, {5, 6, 7}};
        for (int[] w : want) {
            due("6: of " + w[0] + " to " + w[1], x.asks(w[0], w[1], 0), w[2]);
        }
        BrokenBread y = Check.upland(1, 2);
        y.feed(0x80018001, 0xff00ff00, 0x00010900, 0x0101ff00, 0x01018100);
        due("6: bytes above 127 are no FOLK, no WEIGHT", y.row(), 1);
        due("9: each is a CRUMB", y.crumbs(), 6);
        due("8: the one that can be", y.asks(0, 1, 0), 1);
    }

    private static void tokens() {
        String sentence = "II: TOKENS: longest rows of letters, of digits, single other bytes, any blanks between";
        law(sentence, "bars if 1=1or 1=1and 1=1", -1);
        law(sentence, "bars if not1=1", -1);
        law(sentence, "bars if notnot 1=1", 8);
        law(sentence, "barsif 1=1", 0);
        law(sentence, "ba rs", 0);
        law(sentence, "counts 1 0", 9);
        law(sentence, "counts 10 00", 10);
        law(sentence, "counts fed1", 10);
        law(sentence, "counts1fed", 7);
        law(sentence, "counts fed if 1 < = 2", 18);
        law(sentence, "counts fed if 1<=2", 16);
        law(sentence, "  bars   if   1   =   1  ", -1);
        law(sentence, "bars;bars;bars", -1);
        for (int other : new int[] {0, 9, 10, 13, 31, 33, 127, 128, 160, 255}) {
            law(sentence + ": " + other + " is no blank", "bars" + (char) other, 4);
            law(sentence + ": " + other + " is no blank", (char) other + "bars", 0);
        }
        for (char other : new char[] {'A', 'Z', '`', '{', '@', '[', '_', '.', ',', ':', '/', '"', '&', '|', '!'}) {
            law(sentence + ": " + other + " begins no CLAUSE", "bars;" + other, 5);
        }
        law(sentence, "counts 1:", 8);
        law(sentence, "counts 1/", 9);
        law(sentence, "counts 1`", 8);
        law(sentence, "counts fed`", 10);
        law(sentence, "counts fed{", 10);
        law(sentence, "BARS", 0);
        law(sentence, "bArs", 0);
        law(sentence, "barS", 0);
        law(sentence, "Bars", 0);
    }

    private static void clauses() {
        String sentence = "II: 12 CLAUSES at most (FAULT at the 13th's first TOKEN)";
        String twelve = times("bars;", 11) + "bars";
        law(sentence, twelve, -1);
        law(sentence, twelve + " ", -1);
        law(sentence, twelve + ";bars", 60);
        law(sentence, twelve + ";   bars if 1 = 1", 63);
        law(sentence, twelve + ";", 60);
        law(sentence, twelve + "; ", 61);
        law(sentence, twelve + ";;", 60);
        law(sentence, twelve + ";)", 60);
        law(sentence, times("bars;", 10) + "bars", -1);
        law(sentence, times("bars;", 12), 60);
        String passes = times("pass;", 11) + "pass";
        orders(sentence, passes, -1);
        orders(sentence, passes + ";pass", 60);
        orders(sentence, passes + ";", 60);
        orders(sentence, passes + "; harm", 61);
        law("II: CLAUSE {\";\" CLAUSE}", ";", 0);
        law("II: CLAUSE {\";\" CLAUSE}", "bars;", 5);
        law("II: CLAUSE {\";\" CLAUSE}", "bars; ;bars", 6);
        law("II: CLAUSE {\";\" CLAUSE}", "bars bars", 5);
        BrokenBread x = new BrokenBread();
        due("II: all twelve are run", Check.orders(x, times("pass times 20;", 11) + "pass times 20"), 240);
        due("II: DAY", x.count(13), 240);
        BrokenBread y = Check.upland(5, 5);
        StringBuilder text = new StringBuilder("counts 1");
        for (int k = 1; k < 12; k++) {
            text.append(";counts ").append(k % 10).append(" if mood = ").append(k % 10);
        }
        Check.law(y, text.toString());
        y.force(0);
        y.terms(2, 1);
        due("II: all twelve are asked, the last one that HOLDS tells", y.asks(0, 1, 2), 1);
        y.terms(2, 5);
        due("II: one amidst", y.asks(0, 1, 2), 5);
    }

    /** What begins a CLAUSE of the one language begins none of the other; no other word does, either. */
    private static void heads() {
        String sentence = "II: what begins a CLAUSE";
        String[] ofLaws = {"counts", "feeds", "hungers", "bars"};
        String[] ofOrders = {"harm", "feast", "pardon", "pass"};
        String[] ofNone = {"if", "times", "to", "by", "or", "and", "not", "doer", "other", "weight", "age", "fed", "size", "day",
            "mood", "done", "latest", "harms", "starving", "at", "count", "harmed", "1", "[1]", "(1=1)", "="};
        String[] behind = {"", " 1", " 1 if 1 = 1", " 1 to 0", " 1 to 0 by 1", " if 1 = 1"};
        for (String b : behind) {
            for (String head : ofOrders) {
                law(sentence + " of ORDERS", head + b, 0);
                law(sentence + " of ORDERS, the second", "bars;" + head + b, 5);
            }
            for (String head : ofLaws) {
                orders(sentence + " of a LAW", head + b, 0);
                orders(sentence + " of a LAW, the second", "pass;" + head + b, 5);
            }
            for (String head : ofNone) {
                law(sentence + " of none", head + b, 0);
                orders(sentence + " of none", head + b, 0);
            }
        }
        law("II: \"bars\" has no SUM", "bars 1", 5);
        orders("II: \"pass\" has no SUM", "pass 1", 5);
        orders("II: \"pardon\" has no WEIGHT", "pardon 1 to 0 by 1", 14);
        orders("II: \"feast\" is of a set alone", "feast 1 to 0", 8);
        law("II: \"counts\" has one SUM", "counts 1 to 0", 9);
    }

    private static void numbers() {
        String sentence = "II: NUMBER (to 1,000)";
        int[] good = {0, 1, 9, 10, 99, 100, 999, 1000};
        for (int n : good) {
            law(sentence, "counts " + n, -1);
            orders(sentence, "feast " + n, -1);
        }
        String[] bad = {"1001", "1010", "2000", "9999", "10000", "65536", "65537", "2147483647", "2147483648", "4294967295",
            "4294967296", "4294967297", "9223372036854775808", "18446744073709551616", "18446744073709551617",
            "99999999999999999999999999999999999"};
        for (String n : bad) {
            law(sentence, "counts " + n, 7);
            orders(sentence, "feast " + n, 6);
            test(sentence, "1 = " + n, 4);
            orders("II: TIMES: a NUMBER 1 .. 20", "pass times " + n, 11);
            orders("II: P: a NUMBER 0 .. 6", "feast fed " + n, 10);
            orders("II: P: a NUMBER 0 .. 6", "feast at " + n, 9);
        }
        law(sentence, "counts " + times("0", 300) + "1000", -1);
        law(sentence, "counts " + times("0", 300) + "1001", 7);
        law(sentence, "counts -1", 7);
        law(sentence, "counts +1", 7);
    }

    private static void parts() {
        String sentence = "II: 50 PARTS that are NUMBERS and words at most (FAULT at the 51st)";
        String fifty = times("1+", 49) + "1";
        String fortyNine = times("1+", 48) + "1";
        law(sentence, "counts " + fifty, -1);
        law(sentence, "counts " + fifty + "+1", 107);
        law(sentence, "counts " + fifty + "+ mood", 108);
        law(sentence, "counts " + fifty + "+[[1]]", 109);
        law(sentence, "counts " + fifty + "+", 107);
        law(sentence, "counts " + fifty + "+)", 107);
        law(sentence, "counts " + fortyNine + " if 1 = 1", 112);
        law(sentence, "counts " + fortyNine + ";counts 1", -1);
        law(sentence, "counts " + fortyNine + ";counts 1;bars", -1);
        law(sentence, "counts " + fortyNine + ";counts 1;bars if 1 = 1", 122);
        law(sentence, "counts " + fortyNine + ";counts 1;counts 1", 121);
        law(sentence, "counts " + times("[1]+", 49) + "[1]", -1);
        law(sentence, "counts " + times("[1]+", 50) + "[1]", 208);
        law(sentence, "counts " + times("fed-", 49) + "fed", -1);
        law(sentence, "counts " + times("fed-", 50) + "fed", 207);
        orders(sentence, "feast " + fifty, -1);
        orders(sentence, "feast " + fifty + "+day", 106);
        orders(sentence, "harm 1 to 2 by " + times("1+", 47) + "1", -1);
        orders(sentence, "harm 1 to 2 by " + times("1+", 48) + "1", 111);
        String aside = "II: P, TIMES aside, NUMBERS and words count as PARTS";
        orders(aside, "feast " + times("at 0+", 49) + "at 0", -1);
        orders(aside, "feast " + times("at 0+", 49) + "fed 6", -1);
        orders(aside, "feast " + times("at 0+", 50) + "fed 6", 256);
        orders(aside, "feast " + times("at 0+", 50) + "at 7", 256);
        orders(aside, "feast " + fifty + " times 20", -1);
        orders(aside, times("pass times 2;", 11) + "pass times 2 if " + times("1+", 48) + "1=1", -1);
        orders(aside, times("pass times 2;", 11) + "pass times 2 if " + times("1+", 49) + "1=1", 259);
    }

    private static void brackets() {
        String sentence = "II: 8 brackets of both kinds within one another (FAULT at the 9th) at most";
        for (int round = 0; round <= 9; round++) {
            int square = 9 - round;
            String nine = times("(", round) + times("[", square) + "1" + times("]", square) + "=1" + times(")", round);
            test(sentence, nine, 8);
            if (round > 0) {
                String eight = nine.substring(1, nine.length() - 1);
                test(sentence, eight, -1);
            }
        }
        test(sentence, "1=" + times("[", 8) + "1" + times("]", 8), -1);
        test(sentence, "1=" + times("[", 9) + "1" + times("]", 9), 10);
        law(sentence, "counts " + times("[", 8) + "1" + times("]", 8), -1);
        law(sentence, "counts " + times("[", 9) + "1" + times("]", 9), 15);
        law(sentence, "counts " + times("[", 100), 15);
        orders(sentence, "feast " + times("[", 9), 14);
        orders(sentence, "harm 1 to 2 by " + times("[", 8) + "1" + times("]", 8), -1);
        orders(sentence, "harm 1 to " + times("[", 9) + "1" + times("]", 9) + " by 1", 18);
        test(sentence + ": beside one another there may be more", times("(1=1)or", 9) + "(1=1)", -1);
        law(sentence + ": beside one another there may be more", "counts " + times("[1]*", 20) + "[[[[[[[[1]]]]]]]]", -1);
        test(sentence + ": closed ones are not within", "((((((((1=1))))))))and((((((((1=1))))))))", -1);
        test(sentence + ": closed ones are not within", "((((((((1=1))))))))and(((((((((1=1)))))))))", 30);
        test("II: \"not\" PLAIN is no bracket", times("not ", 90) + "((((((((1=1))))))))", -1);
        test("II: \"not\" PLAIN is no bracket", times("not(", 8) + "1=1" + times(")", 8), -1);
        test("II: \"not\" PLAIN is no bracket", times("not(", 9) + "1=1" + times(")", 9), 35);
        String closing = "II: FAULT: the first TOKEN that can't go on there";
        test(closing, "(1=1", 4);
        test(closing, "(1=1))", 5);
        test(closing, "[1)=1", 2);
        test(closing, "(1=1]", 4);
        test(closing, "()", 1);
        test(closing, "[]=1", 1);
        test(closing, "(1)=1", 2);
        test(closing, "[1=1]", 2);
        test(closing, "1=(1)", 2);
        test(closing, "not", 3);
        test(closing, "not not", 7);
        test(closing, "", 0);
    }

    private static void faultsAtTheEnd() {
        String sentence = "II: the end's FAULT: the TEXT's length";
        law(sentence, "", 0);
        law(sentence, " ", 1);
        orders(sentence, "", 0);
        orders(sentence, "     ", 5);
        law(sentence, "counts", 6);
        law(sentence, "counts   ", 9);
        law(sentence, "counts 1 if   ", 14);
        law(sentence, "counts 1 -  ", 12);
        law(sentence, "counts [1  ", 11);
        law(sentence, "bars if 1 <", 11);
        orders(sentence, "harm", 4);
        orders(sentence, "harm 1 to", 9);
        orders(sentence, "harm 1 to 2", 11);
        orders(sentence, "harm 1 to 2 by ", 15);
        orders(sentence, "pardon 1", 8);
        orders(sentence, "pass times  ", 12);
        orders(sentence, "feast fed", 9);
        orders(sentence, "feast at ", 9);
        String blanks = "10, 11: blanks alone: FAULT at the end";
        law(blanks, times(" ", 20), 20);
        orders(blanks, times(" ", 400), 400);
    }

    /** By how one HUNGERS, 0 .. 9, who is FED 6, as number 1 on DAY 8 with MOOD 3; 7, if the CLAUSE does not HOLD. */
    private static void hungers(String sentence, String clause, int want) {
        BrokenBread x = Check.upland(5, 6);
        x.terms(2, 3);
        x.terms(0, 8);
        Check.law(x, "hungers 7;hungers " + clause);
        x.force(0);
        due(sentence + ": " + clause, x.of(1, 2), want);
    }

    private static void sums() {
        String beyond = "II: Beyond 1,000,000,000 either way a SUM is BROKEN";
        String most = "1000 * 1000 * 1000";
        hungers(beyond, most, 9);
        hungers(beyond, most + " + 0", 9);
        hungers(beyond, most + " + 1", 7);
        hungers(beyond, most + " - 1", 9);
        hungers(beyond, "1 + " + most, 7);
        hungers(beyond, "0 - " + most, 0);
        hungers(beyond, "0 - " + most + " - 1", 7);
        hungers(beyond, "[0 - 1] - " + most, 7);
        hungers(beyond, "[0 - 1000] * 1000 * 1000", 0);
        hungers(beyond, "[0 - 1000 - 1] * 1000 * 1000", 7);
        hungers(beyond, most + " / [0 - 1] - 1", 7);
        hungers(beyond, most + " * 2", 7);
        hungers(beyond, most + " * 5", 7);
        hungers(beyond, most + " * 1000 * 1000 * 1000 * 1000", 7);
        hungers(beyond, most + " * 2 * 0", 7);
        hungers(beyond, "0 * [" + most + " * 2]", 7);
        hungers(beyond, most + " + " + most + " - " + most, 7);
        hungers(beyond, most + " - " + most + " + 4", 4);
        hungers(beyond, "[0 - 1000] * [0 - 1000] * 1000", 9);
        hungers(beyond, "[0 - 1000] * [0 - 1000] * 1000 + 1", 7);
        hungers(beyond, most + " % [0 - 7]", 6);
        String zero = "II: divided by 0 a SUM is BROKEN";
        for (String sign : new String[] {"/", "%"}) {
            hungers(zero, "1 " + sign + " 0", 7);
            hungers(zero, "0 " + sign + " 0", 7);
            hungers(zero, "1 " + sign + " [2 - 2]", 7);
            hungers(zero, "0 * [1 " + sign + " 0]", 7);
            hungers(zero, "5 - 1 " + sign + " [fed - 6]", 7);
            hungers(zero, "2 + 0 " + sign + " 1", 2);
            hungers(zero, most + " " + sign + " 0", 7);
        }
        String cut = "II: / cut towards 0, % what is left then";
        hungers(cut, "7 / 2", 3);
        hungers(cut, "5 + [0 - 7] / 2", 2);
        hungers(cut, "5 + 7 / [0 - 2]", 2);
        hungers(cut, "[0 - 7] / [0 - 2]", 3);
        hungers(cut, "5 + [0 - 1] / 2", 5);
        hungers(cut, "7 % 2", 1);
        hungers(cut, "5 + [0 - 7] % 2", 4);
        hungers(cut, "5 + 7 % [0 - 2]", 6);
        hungers(cut, "5 + [0 - 7] % [0 - 2]", 4);
        hungers(cut, "5 + 3 % 7", 8);
        hungers(cut, "5 + [0 - 3] % 7", 2);
        hungers(cut, "5 + [0 - 8] % 4", 5);
    }

    /** A TEST: 1 if it is so, 7 if it is not or is BROKEN. */
    private static void so(String sentence, String test, boolean want) {
        hungers(sentence, "1 if " + test, want ? 1 : 7);
        BrokenBread x = new BrokenBread();
        due(sentence + ", orders: " + test, Check.orders(x, "pass if " + test), want ? 1 : 0);
        due(sentence + ", a BROKEN one can be: " + test, x.stopped(), -1);
    }

    private static void tests() {
        String compared = "II: SUM (\"<\" | \">\" | \"=\") SUM";
        so(compared, "1 < 1", false);
        so(compared, "0 < 1", true);
        so(compared, "0 - 1 < 0", true);
        so(compared, "1 > 1", false);
        so(compared, "1 > 0", true);
        so(compared, "0 > 0 - 1", true);
        so(compared, "1 = 1", true);
        so(compared, "1 = 2", false);
        so(compared, "1000 * 1000 * 1000 = 1000 * 1000 * 1000", true);
        String broken = "II: a TEST is BROKEN";
        so(broken, "1 / 0 = 1", false);
        so(broken, "1 = 1 % 0", false);
        so(broken, "not 1 / 0 = 1", false);
        so(broken, "not not 1 / 0 = 1", false);
        so(broken, "(1 / 0 = 1)", false);
        so(broken, "1000 * 1000 * [1000 + 1] > 0", false);
        so(broken, "not 1000 * 1000 * [1000 + 1] > 0", false);
        so(broken, "0 - 1000 * 1000 * [1000 + 1] < 0", false);
        so(broken, "1 / 0 = 1 or 1 = 1", false);
        so(broken, "not (1 / 0 = 1 and 1 = 2)", false);
        String turned = "II: \"not\" PLAIN";
        so(turned, "not 1 = 1 and 1 = 1", false);
        so(turned, "not 1 = 2 and 1 = 1", true);
        so(turned, "not 1 = 2 or 1 = 2", true);
        so(turned, "not (not 1 = 1)", true);
        so(turned, "not (not (not 1 = 1))", false);
        so(turned, "not (not 1 = 2 and not 1 = 1)", true);
        so(turned, times("not ", 80) + "1 = 1", true);
        so(turned, times("not ", 81) + "1 = 1", false);
        String asked = "II: \"or\", \"and\" ask what stands behind only if it can still matter";
        so(asked, "1 = 1 or 1 / 0 = 1", true);
        so(asked, "1 = 2 or 1 / 0 = 1", false);
        so(asked, "not (1 = 2 and 1 / 0 = 1)", true);
        so(asked, "not (1 = 1 and 1 / 0 = 1)", false);
        so(asked, "1 = 1 or 1 / 0 = 1 or 1 / 0 = 1", true);
        so(asked, "1 = 2 or 1 = 1 or 1 / 0 = 1", true);
        so(asked, "not (1 = 2 and 1 / 0 = 1 and 1 / 0 = 1)", true);
        so(asked, "not (1 = 1 and 1 = 2 and 1 / 0 = 1)", true);
        so(asked, "1 = 2 and 1 / 0 = 1 or 1 = 1", true);
        so(asked, "1 = 1 or 1 / 0 = 1 and 1 / 0 = 1", true);
        so(asked, "(1 = 1 or 1 / 0 = 1) and 1 = 1", true);
        so(asked, "(1 = 1 or 1 / 0 = 1) and 1 / 0 = 1", false);
        so(asked, "not 1 = 1 or 1 / 0 = 1", false);
    }

    private static void heldClauses() {
        String last = "II: as the last one that HOLDS tells";
        hungers(last, "2;hungers 3", 3);
        hungers(last, "2;hungers 3 if 1 = 2", 2);
        hungers(last, "2;hungers 3 if 1 / 0 = 1", 2);
        hungers(last, "2;hungers 1 / 0", 2);
        hungers(last, "2;hungers 1000 * 1000 * [1000 + 1]", 2);
        hungers(last, "2;hungers 1 / 0 if 1 = 1;hungers 4 if 2 < 1", 2);
        hungers(last, "2;feeds 4;counts 5;bars", 2);
        String nearest = "II: 0 .. 9 (else the nearest)";
        int[][] sums = {{0, 0}, {1, 1}, {8, 8}, {9, 9}, {10, 9}, {1000, 9}};
        for (int[] s : sums) {
            hungers(nearest, "" + s[0], s[1]);
        }
        hungers(nearest, "0 - 1", 0);
        hungers(nearest, "0 - 1000 * 1000 * 1000", 0);
        hungers(nearest, "1000 * 1000 * 1000", 9);
        BrokenBread x = Check.upland(0, 0, 9);
        x.harm(0, 1, 5);
        String[] laws = {"counts 0 - 1", "counts 0", "counts 9", "counts 10", "counts 1 / 0", "counts 3 if 1 / 0 = 1",
            "counts 1000 * 1000 * 1000", "counts 0 - 1000 * 1000 * 1000"};
        int[] counts = {0, 0, 9, 9, 5, 5, 9, 0};
        int[] without = {0, 0, 9, 9, 0, 0, 9, 0};
        for (int k = 0; k < laws.length; k++) {
            x.image(0);
            Check.law(x, laws[k]);
            x.force(0);
            due(nearest + ": " + laws[k], x.asks(0, 1, 2), counts[k]);
            due("II: its WEIGHT without (0, if there is none): " + laws[k], x.asks(1, 0, 2), without[k]);
            x.back(0);
        }
        String[] meals = {"feeds 0 - 1", "feeds 0", "feeds 9", "feeds 10", "feeds 1 / 0", "feeds 5 if 1 % 0 = 1", "hungers 5",
            "feeds 4;feeds 1 / 0"};
        int[] fed = {0, 0, 9, 9, 2, 2, 2, 4};
        for (int k = 0; k < meals.length; k++) {
            x.image(0);
            Check.law(x, meals[k]);
            x.force(0);
            x.feast(3);
            due("II: a meal FEEDS by 0 .. 9, 2 without: " + meals[k], x.of(0, 0), fed[k]);
            x.back(0);
        }
        Check.law(x, "bars if 1 / 0 = 1;bars if 1 = 2");
        x.force(0);
        due("II: BARS, if \"bars\" HOLDS, a BROKEN one does not", x.asks(0, 1, 3), 0);
        Check.law(x, "bars;bars if 1 = 2;bars if 1 / 0 = 1");
        x.force(1);
        due("II: any \"bars\" that HOLDS", x.asks(0, 1, 3), 1);
    }

    private static void lawWords() {
        BrokenBread x = Check.upland(4, 6, 2);
        x.terms(0, 10);
        x.harm(0, 1, 3);
        x.harm(1, 0, 1);
        Check.law(x, "counts age + 5");
        Check.law(x, "counts weight");
        Check.law(x, "counts size + 5");
        Check.law(x, "counts fed");
        Check.law(x, "hungers other + weight + age + size + 9");
        Check.law(x, "feeds other + weight + age + size + 5");
        x.force(0);
        due("II: age on the same DAY is 0", x.asks(0, 1, 2), 5);
        due("II: age -1 without", x.asks(0, 2, 2), 4);
        x.terms(0, 12);
        due("II: age: DAY less its DAY", x.asks(0, 1, 2), 7);
        x.terms(0, 8);
        due("II: age may be below 0", x.asks(0, 1, 2), 3);
        due("II: age below 0 of a HARM of WEIGHT 1", x.asks(1, 0, 2), 3);
        x.terms(0, 9);
        due("II: age -1 of a HARM that is one DAY ahead", x.asks(0, 1, 2), 4);
        x.pardon(0, 1);
        due("II: age -1 behind a pardon", x.asks(0, 1, 2), 4);
        x.undo();
        x.force(1);
        due("II: weight 0 without", x.asks(0, 2, 2), 0);
        due("II: weight of the HARM of the doer to the other one", x.asks(0, 1, 2), 3);
        x.force(2);
        due("II: size -1 of two", x.asks(0, 1, 2), 4);
        x.force(3);
        due("II: fed: the doer's", x.asks(0, 1, 2), 4);
        due("II: fed: the doer's, the other way", x.asks(1, 0, 2), 6);
        x.force(4);
        x.terms(0, 30);
        x.asks(0, 1, 2);
        due("II: hungers: other, weight, age, size -1", x.of(0, 2), 5);
        x.force(5);
        x.asks(0, 1, 2);
        x.feast(3);
        due("II: feeds: other, weight, age -1, size: how many sit there", x.of(0, 0), 8);
    }

    private static void ordersOfLimits() {
        String often = "II: TIMES: a NUMBER 1 .. 20";
        BrokenBread x = new BrokenBread();
        due(often, Check.orders(x, "pass times 1"), 1);
        due(often, Check.orders(x, "pass times 20"), 20);
        due(often + ", once without", Check.orders(x, "pass"), 1);
        due(often + ", DAY", x.count(13), 22);
        orders(often, "pass times 0", 11);
        orders(often, "pass times 21", 11);
        orders(often, "pass times 00", 11);
        orders(often, "pass times - 1", 11);
        orders(often, "pass times [1]", 11);
        orders(often, "pass times 1 + 1", 13);
        orders(often, "pass times done", 11);
        orders(often, "pass if 1 = 1 times 2", 14);
        orders(often, "pass times 2 times 2", 13);
        law(often + ", of ORDERS alone", "counts 1 times 2", 9);
        law(often + ", of ORDERS alone", "bars times 2", 5);
        String whom = "II: P: a NUMBER 0 .. 6";
        orders(whom, "feast fed 0 + at 0", -1);
        orders(whom, "feast fed 6 + at 6", -1);
        orders(whom, "feast fed 7", 10);
        orders(whom, "feast at 7", 9);
        orders(whom, "feast at 10", 9);
        orders(whom, "feast at - 1", 9);
        orders(whom, "feast fed", 9);
        orders(whom, "feast fed + 1", 10);
        orders(whom, "feast at fed 1", 9);
        orders(whom, "pass if fed = 1", 12);
        law(whom + ", of ORDERS alone", "counts fed 1", 11);
        law(whom + ", of ORDERS alone", "counts at 1", 7);
        for (String word : new String[] {"doer", "other", "weight", "age", "size", "mood"}) {
            orders("II: a LAW's word", "feast " + word, 6);
        }
        for (String word : new String[] {"done", "latest", "harms", "starving", "at", "harm", "to", "by", "times", "if", "or"}) {
            law("II: no word of a LAW", "counts " + word, 7);
        }
    }

    /** A word's number at first in a TEXT, or behind what was run ahead of it, by the WEIGHT of a HARM. */
    private static void word(String sentence, String ahead, String sum, int want) {
        BrokenBread x = Check.upland(4, 1, 0);
        x.terms(0, 5);
        x.harm(0, 1, 9);
        x.feast(3);
        Check.orders(x, ahead + "harm 2 to 1 by " + sum);
        due(sentence + ": " + ahead + sum, x.asks(2, 1, 0), want);
    }

    private static void orderWords() {
        word("II: done: how many were run in this TEXT, none at first", "", "done + 1", 1);
        word("II: done: each time", "pass times 4;", "done", 4);
        word("II: done: not what was not run", "pass if 1 = 2;pass if 1 / 0 = 1;", "done + 1", 1);
        word("II: latest: -1: none in this TEXT", "", "latest + 2", 1);
        word("II: latest: what the latest feast in it told", "feast 3;pass;", "latest", 2);
        word("II: fed of the last there is", "", "fed 2 + 1", 1);
        word("II: fed: -1 without such FOLK", "", "fed 3 + 2", 1);
        word("II: fed: -1 without such FOLK, the highest", "", "fed 6 + 2", 1);
        word("II: at: nobody", "", "at 2 + 1", 1);
        word("II: at: -1 without such FOLK", "", "at 3 + 2", 1);
        word("II: at: -1 without such FOLK, the highest", "", "at 6 + 2", 1);
        word("II: harms: none", "pardon 0 to 1;", "harms + 1", 1);
        word("II: harms: one", "", "harms", 1);
        word("II: harms: four", "harm 1 to 0 by 1;harm 1 to 2 by 1;harm 0 to 2 by 1;harm 0 to 2 by 2;", "harms", 4);
        word("II: starving, of all", "pass times 6;", "starving", 3);
        word("II: starving", "", "starving", 1);
        word("II: day", "pass;", "day", 6);
        BrokenBread x = Check.upland(5, 5);
        Check.orders(x, "pass times 3");
        due("II: done, latest are of this TEXT: a second one begins anew", Check.orders(x, "pass if done = 0 and latest = 0 - 1"), 1);
        BrokenBread seven = Check.upland(5, 5, 5, 5, 5, 5, 5);
        seven.harm(6, 0, 1);
        due("II: at of the seventh", Check.orders(seven, "feast at 6 + at 0"), 1);
        due("II: FED", seven.of(6, 0), 7);
        due("II: each time its \"if\" is asked", Check.orders(seven, "pass times 20 if done < 3"), 3);
        due("II: its SUMS each time", Check.orders(seven, "harm 1 to 2 by done + 1 times 9"), 9);
        due("II: the last WEIGHT", seven.asks(1, 2, 0), 9);
        due("II: the tenth can't be", Check.orders(seven, "harm 2 to 1 by done + 1 times 10"), -3);
        due("II: all is as it was ahead of it", seven.asks(2, 1, 0), 0);
    }

    /** "fed", "at" of each P of seven, of whom each MAY sit with others. */
    private static void wordsOfSeven() {
        BrokenBread x = Check.upland(0, 1, 2, 3, 4, 5, 9);
        int[][] twos = {{6, 0}, {0, 3}, {5, 4}, {1, 2}, {2, 6}, {1, 5}};
        for (int[] two : twos) {
            x.harm(two[0], two[1], 1);
        }
        int[] fed = {0, 1, 2, 3, 4, 5, 9};
        int[] may = {72, 36, 66, 1, 32, 18, 5};
        for (int p = 0; p < 7; p++) {
            String test = "pass if fed " + p + " = " + fed[p] + " and at " + p + " = " + may[p];
            due("II: " + test, Check.orders(x, test), 1);
            x.undo();
            due("3: with whom " + p + " MAY sit", x.of(p, 1), may[p]);
        }
        due("II: two of them in one TEXT", Check.orders(x, "pass if at 0 * 10 + at 6 = 725"), 1);
        due("II: anew behind each one that was run",
                Check.orders(x, "pardon 6 to 0;pass if at 0 = 8 and at 6 = 4;harm 0 to 6 by 1;pass if at 0 = 72 and at 6 = 5"), 4);
        due("II: by the LAW in FORCE", x.force(Check.law(x, "bars if doer = 6")), -1);
        due("II: nobody sits with the seventh", Check.orders(x, "pass if at 6 = 0 and at 0 = 8"), 1);
    }

    /** What one TEXT leaves behind, or what was asked ahead of it, must not reach the next. */
    private static void textsOneByOne() {
        BrokenBread x = Check.upland(5, 5);
        x.harm(0, 1, 1);
        String most = "counts " + times("1+", 49) + "1;" + times("bars;", 10) + "bars";
        due("10: the most PARTS and CLAUSES", Check.law(x, most), 0);
        due("10: not whole", Check.law(x, "counts 1 if [[[[[[[[1 + "), -6);
        due("10: the most again", Check.law(x, most), 1);
        due("11: the most PARTS", Check.orders(x, "pass if 0 < " + times("at 0+", 48) + "1"), 1);
        due("11: the most PARTS again", Check.orders(x, "pass if 0 < " + times("at 0+", 48) + "1"), 1);
        due("10: a short one", Check.law(x, "bars if doer = 0"), 2);
        due("36: another LAW is asked", x.compare(0), 0);
        due("11: by that in FORCE, none", Check.orders(x, "feast 3;pass if at 0 = 2"), 2);
        x.force(2);
        due("36: no LAW is asked", x.compare(-1), 2);
        due("11: by that in FORCE", Check.orders(x, "feast 3"), -3);
        x.force(-1);
        x.seasons(7, 9);
        due("11: not of the SEASONS", Check.orders(x, "pass if day = 3"), 1);
    }

    /** A HARM's DAY, too, is as it was ahead of ORDERS that can't be. */
    private static void dayOfHarmAhead() {
        BrokenBread x = Check.upland(5, 5);
        x.terms(0, 3);
        x.harm(0, 1, 7);
        x.terms(0, 8);
        due("11: one can't be", Check.orders(x, "harm 0 to 1 by 8;pardon 0 to 1;harm 0 to 1 by 7;feast 0"), -3);
        due("11: its WEIGHT is as it was", x.asks(0, 1, 0), 7);
        due("11: its DAY is as it was", x.asks(0, 1, 1), 3);
    }

    private static void cantBe() {
        String sentence = "11: -3 one can't be";
        String[] broken = {"harm 1 / 0 to 1 by 1", "harm 0 to 1 / 0 by 1", "harm 0 to 1 by 1 / 0", "feast 1 / 0", "pardon 1 / 0 to 1",
            "pardon 0 to 1 / 0", "harm 0 to 1 by 1000 * 1000 * [1000 + 1]", "feast 3 % 0"};
        String[] refused = {"harm 0 to 1 by 4", "harm 0 to 1 by 0", "harm 0 to 1 by 10", "harm 0 to 0 by 1", "harm 0 to 2 by 1",
            "harm 0 - 1 to 0 by 1", "feast 0", "feast 1", "feast 4", "feast 128", "feast 0 - 1", "pardon 0 to 0", "pardon 0 to 1 times 2",
            "pardon 2 to 0", "pass"};
        for (String[] all : new String[][] {broken, refused}) {
            for (String clause : all) {
                BrokenBread x = Check.upland(4, 6);
                x.harm(0, 1, 4);
                x.terms(0, 999);
                x.harm(1, 0, 2);
                due(sentence + ": " + clause, Check.orders(x, "feast 3;harm 1 to 0 by 3;" + clause), -3);
                due("13: which CLAUSE: " + clause, x.stopped(), 2);
                due(sentence + ", FED: " + clause, x.of(0, 0) * 10 + x.of(1, 0), 46);
                due(sentence + ", HARMS: " + clause, x.asks(1, 0, 0), 2);
                due(sentence + ", what can be undone: " + clause, x.count(5), 1);
                due(sentence + ", REFUSED once: " + clause, x.count(9), 1);
                due(sentence + ", by -3 alone: " + clause, x.count(7) + x.count(8), 0);
                due("II: not run, if it is not so: " + clause, Check.orders(x, clause + " if 1 = 2"), 0);
                due("II: not run, if it is BROKEN: " + clause, Check.orders(x, clause + " if 1 / 0 = 1"), 0);
                due("13: NONE: " + clause, x.stopped(), -1);
            }
        }
        BrokenBread x = new BrokenBread();
        due("13: NONE ahead of any", x.stopped(), -1);
        due("11: the twelfth can't be", Check.orders(x, times("pass;", 11) + "feast 0"), -3);
        due("13: the twelfth", x.stopped(), 11);
        due("11: the first can't be", Check.orders(x, "feast 0;" + times("pass;", 10) + "pass"), -3);
        due("13: the first", x.stopped(), 0);
        due("11: a later time can't be", Check.orders(x, "pass;feast done times 3"), -3);
        due("13: its CLAUSE", x.stopped(), 1);
        Check.law(x, "bars");
        due("13: of the latest orders(), law() leaves it", x.stopped(), 1);
        due("11: a TEXT that can't be", Check.orders(x, "?"), -6);
        due("13: no CLAUSE of it", x.stopped(), -1);
        due("11: DAY", x.count(13), 0);
        x.terms(0, 980);
        due("11: to 999", Check.orders(x, "pass times 19"), 19);
        due("11: beyond 999", Check.orders(x, "pass"), -3);
        x.terms(0, 980);
        due("11: beyond 999 at its last time", Check.orders(x, "pass times 20"), -3);
        due("11: DAY is as it was", x.count(13), 980);
    }

    private static void rows() {
        BrokenBread x = Check.upland(1, 2, 3);
        due("9: 0 ahead of any", x.crumbs(), 0);
        due("8: -6 the TAPE is empty", x.row(), -6);
        int[][] one = {{0, 1, 1}, {0, 1, 9}, {2, 0, 5}};
        for (int[] r : one) {
            Check.putBytes(x, r);
            due("8: a HARM that can be", x.row(), 1);
            due("9: no CRUMB", x.crumbs(), 0);
            due("8: its WEIGHT", x.asks(r[0], r[1], 0), r[2]);
        }
        int[][] crumb = {{0, 1, 0}, {0, 1, 10}, {1, 1, 1}, {3, 0, 1}, {0, 3, 1}, {255, 0, 1}, {0, 255, 1}, {0, 1, 255}, {0, 1, 128},
            {0, 1}, {0}, {32, 1, 1}};
        for (int[] r : crumb) {
            Check.putBytes(x, r);
            due("8: one that can't be, one within which the TAPE ends", x.row(), 0);
            due("9: is a CRUMB", x.crumbs(), 1);
            due("8: nothing", x.asks(0, 1, 0), 9);
            due("8: it is not REFUSED", x.status(), 0);
            due("8: the TAPE is empty then", x.count(6), 0);
        }
        due("8: HARMS", x.count(1), 2);
        due("8: REFUSED", x.row(), -6);
        due("9: the latest that was not REFUSED", x.crumbs(), 1);
        x.terms(0, 7);
        Check.putBytes(x, 0, 1, 9, 0, 1, 8, 0, 1, 9, 1);
        due("8: whatever there was, each counts", x.row(), 3);
        due("9: the last one", x.crumbs(), 1);
        due("8: done on DAY", x.asks(0, 1, 1), 7);
        byte[] most = new byte[400];
        for (int k = 0; k < 400; k++) {
            most[k] = (byte) new int[] {1, 2, 1 + k % 9}[k % 3];
        }
        Check.putBytes(x, most);
        due("8: a full TAPE: 133 by threes", x.row(), 133);
        due("9: and one byte", x.crumbs(), 1);
        BrokenBread y = new BrokenBread();
        Check.putBytes(y, 0, 1, 1);
        due("8: without FOLK", y.row(), 0);
        due("9: without FOLK", y.crumbs(), 1);
    }

    private static void laws() {
        BrokenBread x = new BrokenBread();
        due("12: NONE without", x.fault(), -1);
        for (int k = 0; k < 6; k++) {
            due("II: LAWS, 6 at most", Check.law(x, "bars"), k);
        }
        Check.law(x, "bars");
        due("10: -5 a seventh", x.status(), -5);
        due("10: there are six", x.count(4), 6);
        Check.orders(x, "? ");
        due("12: of orders()", x.fault(), 0);
        Check.law(x, "bars ?");
        due("10: -5 ahead of reading it", x.status(), -5);
        due("12: the latest that read a TEXT", x.fault(), 0);
        due("10: the TAPE is empty then, too", x.count(6), 0);
        BrokenBread y = new BrokenBread();
        due("10: -6 of an empty TAPE", y.law(), -6);
        due("12: at the end", y.fault(), 0);
        due("10: a number without a gap behind a REFUSED one", Check.law(y, "bars"), 0);
        due("12: NONE behind a LAW that was read", y.fault(), -1);
        due("11: -6 of an empty TAPE", y.orders(), -6);
        due("12: at the end", y.fault(), 0);
        due("11: none run", Check.orders(y, "pass if 1 = 2"), 0);
        due("12: NONE behind ORDERS that were read", y.fault(), -1);
    }

    public static void main(String[] args) {
        tape();
        bytes();
        tokens();
        clauses();
        heads();
        numbers();
        parts();
        brackets();
        faultsAtTheEnd();
        sums();
        tests();
        heldClauses();
        lawWords();
        ordersOfLimits();
        orderWords();
        wordsOfSeven();
        textsOneByOne();
        dayOfHarmAhead();
        cantBe();
        rows();
        laws();
        CHECK.close();
    }
}
