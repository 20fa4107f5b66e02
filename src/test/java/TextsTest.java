/** Promises 6 to 13: the TAPE, ROWS, LAWS and ORDERS, and both languages. */
public final class TextsTest {
    private static final Check CHECK = new Check("texts");

    private static void due(String what, long got, long want) {
        CHECK.due(what, got, want);
    }

    private static void feedAndEnd() {
        BrokenBread x = Check.upland(1, 2, 3, 4);
        due("6: twenty bytes", x.feed(0x00010200, 0x00000000, 0, 0, 0x00020103), 20);
        due("6: they came", x.count(6), 20);
        due("7: fewer", x.end(3), 3);
        due("8: the highest byte first", x.row(), 1);
        due("8: it was 0 to 1 by 2", x.asks(0, 1, 0), 2);
        for (int k = 1; k <= 20; k++) {
            due("6: up to 400", x.feed(-1, -1, -1, -1, -1), 20 * k);
        }
        due("6: no more", x.feed(0, 0, 0, 0, 0), -1);
        due("6: none came", x.count(6), 400);
        due("7: too many", x.end(401), -1);
        due("7: below 0", x.end(-1), -1);
        due("7: all", x.end(400), 400);
        due("7: 381", x.end(381), 381);
        due("6: 401 would be", x.feed(0, 0, 0, 0, 0), -1);
        due("7: 380", x.end(380), 380);
        due("6: 400 would be", x.feed(0, 0, 0, 0, 0), 400);
        due("7: none", x.end(0), 0);
        due("7: it has not so many", x.end(1), -1);
        due("6, 7: neither is told by status", x.status(), 0);
        due("6: bytes above 127", x.feed(0x80ff7f20, 0, 0, 0, 0), 20);
        x.end(4);
        due("6: are no letters", x.law(), -6);
        due("6: at 0", x.fault(), 0);
    }

    private static void rows() {
        BrokenBread x = Check.upland(1, 2, 3);
        due("8: the TAPE is empty", x.row(), -6);
        due("8: status", x.status(), -6);
        due("9: ahead of any", x.crumbs(), 0);
        x.terms(0, 7);
        x.harm(0, 1, 5);
        x.terms(0, 9);
        Check.putBytes(x, 0, 1, 5, 1, 1, 3, 2, 3, 1, 2, 0, 0, 2, 0, 10, 2, 0, 9, 255, 0, 1, 2, 1);
        due("8: how many", x.row(), 2);
        due("9: those that can't be, and the last", x.crumbs(), 6);
        due("8: whatever there was", x.asks(0, 1, 0), 5);
        due("8: done on DAY", x.asks(0, 1, 1), 9);
        due("8: another one", x.asks(2, 0, 0), 9);
        due("8: the TAPE is empty then", x.count(6), 0);
        due("8: REFUSED", x.row(), -6);
        due("9: stays then", x.crumbs(), 6);
        Check.putBytes(x, 1, 2, 3, 1, 2, 4);
        due("8: each counts", x.row(), 2);
        due("9: none", x.crumbs(), 0);
        due("8: the latest stands", x.asks(1, 2, 0), 4);
        Check.putBytes(x, 2, 1, 1);
        due("8: WEIGHT 1", x.row(), 1);
        Check.putBytes(x, 1);
        due("8: none", x.row(), 0);
        due("9: one", x.crumbs(), 1);
    }

    private static void laws() {
        BrokenBread x = new BrokenBread();
        for (int k = 0; k < 6; k++) {
            due("10: its number", Check.law(x, "counts " + k), k);
            due("10: the TAPE is empty then", x.count(6), 0);
            due("12: no FAULT", x.fault(), -1);
        }
        Check.put(x, "bars 1");
        due("10: a seventh", x.law(), -5);
        due("10: the TAPE is empty then, too", x.count(6), 0);
        due("12: nothing was read", x.fault(), -1);
        due("10: -5 comes ahead of -6", x.law(), -5);
        due("10: status", x.status(), -5);
        due("10: LAWS", x.count(4), 6);
        BrokenBread y = new BrokenBread();
        Check.put(y, "    ");
        due("10: blanks alone", y.law(), -6);
        due("12: at the end", y.fault(), 4);
        due("10: the TAPE is empty then", y.count(6), 0);
        due("10: an empty TAPE", y.law(), -6);
        due("12: at 0", y.fault(), 0);
        Check.law(y, "bars");
        due("12: none behind a good one", y.fault(), -1);
    }

    private static void lawFault(String text, int place) {
        BrokenBread x = new BrokenBread();
        due("law: " + text, Check.law(x, text), place < 0 ? 0 : -6);
        due("law's fault: " + text, x.fault(), place);
    }

    private static void orderFault(String text, int place) {
        BrokenBread x = new BrokenBread();
        int answer = Check.orders(x, text);
        CHECK.isSo("orders: " + text, place < 0 ? answer != -6 : answer == -6);
        due("orders' fault: " + text, x.fault(), place);
    }

    private static void lawGrammar() {
        String[] good = {"bars", " bars ", "bars;bars", "counts 1", "counts1", "feeds[1]", "hungers 1+2-3*4/5%6",
            "bars if 1=1", "bars if not not 1<2", "bars if (1>2)", "bars if ((1=[1]))and 1=1 or not(2=2)",
            "counts doer+other+weight+age+fed+size+day+mood", "counts 1000", "counts 0001000", "counts 1 if 1=1",
            "bars if [1]=1", "bars if not(not(1=1))", "counts 1;feeds 2;hungers 3;bars if 1=2",
            "counts 3if 1=1", "bars if 1=1and 2=2"};
        for (String text : good) {
            lawFault(text, -1);
        }
        Object[][] bad = {{"bars;", 5}, {";bars", 0}, {"bars;;bars", 5}, {"counts", 6}, {"counts ", 7}, {"counts if", 7},
            {"counts 1 2", 9}, {"counts 1 times 2", 9}, {"counts 1001", 7}, {"counts 99999999999999999999999", 7},
            {"counts -1", 7}, {"counts 1 +", 10}, {"counts 1 + + 2", 11}, {"counts (1)", 7}, {"counts [1", 9},
            {"counts [1)", 9}, {"counts []", 8}, {"counts 1]", 8}, {"counts at 1", 7}, {"counts done", 7},
            {"counts fed 1", 11}, {"counts Fed", 7}, {"counts fedx", 7}, {"count 1", 0}, {"countss 1", 0}, {"pass", 0},
            {"harm 1 to 2 by 3", 0}, {"bars 1", 5}, {"bars if", 7}, {"bars if 1", 9}, {"bars if 1 = ", 12},
            {"bars if 1 = 1 = 1", 14}, {"bars if 1 == 1", 11}, {"bars if not", 11}, {"bars if (1 = 1", 14},
            {"bars if (1 = 1]", 14}, {"bars if [1 = 1]", 11}, {"bars if (1) = 1", 10}, {"bars if 1 = 1)", 13},
            {"bars if 1 = 1 or", 16}, {"bars if 1 = 1 and or", 18}, {"bars if 1 = 1 not 2 = 2", 14}, {"bars\tif 1 = 1", 4},
            {"bars if 1 = 1 if 1 = 1", 14}, {"bars ifday = 1", 5}, {"counts 1,2", 8}, {"counts 1 *;bars", 10},
            {"counts 1 +;bars", 10}, {"gars", 0}, {"barz", 0}, {"bar", 0}, {"bars if nat 1 = 1", 8}, {"bars if 1 = ;bars", 12},
            {"bars if 1 = 1 and ;bars", 18}, {"counts [1 + ];bars", 12}, {"bars if (1 = 1 or );bars", 18}, {"counts 1.5", 8}, {"bars, bars", 4}};
        for (Object[] b : bad) {
            lawFault((String) b[0], (Integer) b[1]);
        }
    }

    private static void lawLimits() {
        String twelve = Check.repeated("bars;", 11) + "bars";
        lawFault(twelve, -1);
        lawFault(twelve + ";bars", 60);
        lawFault(twelve + "; ?", 61);
        lawFault(twelve + ";  ", 62);
        String fifty = "counts " + Check.repeated("1+", 49) + "1";
        lawFault(fifty, -1);
        lawFault(fifty + "+1", 107);
        lawFault(fifty + "+[1]", 108);
        lawFault(fifty + " if fed = 1", 110);
        lawFault(fifty + ";bars", -1);
        lawFault(fifty + ";bars if day = 1", 115);
        lawFault("counts " + Check.repeated("fed*", 50) + "day", 207);
        lawFault("counts " + Check.repeated("[", 8) + "1" + Check.repeated("]", 8), -1);
        lawFault("counts " + Check.repeated("[", 9) + "1" + Check.repeated("]", 9), 15);
        lawFault("bars if " + Check.repeated("(", 8) + "1=1" + Check.repeated(")", 8), -1);
        lawFault("bars if " + Check.repeated("(", 9) + "1=1" + Check.repeated(")", 9), 16);
        lawFault("bars if " + Check.repeated("(", 4) + "[[[[1]]]]=1" + Check.repeated(")", 4), -1);
        lawFault("bars if " + Check.repeated("(", 5) + "[[[[1]]]]=1" + Check.repeated(")", 5), 16);
        lawFault("bars if 1=[[[[[[[[1]]]]]]]]and[[[[[[[[1]]]]]]]]=1", -1);
        lawFault("bars if " + Check.repeated("not ", 97) + "1=1", -1);
        lawFault("bars if " + Check.repeated("not ", 98), 400);
    }

    private static void orderGrammar() {
        String[] good = {"pass", "pass;pass", "pass times 1", "pass times 20 if 1=1", "pass times 020", "feast 3",
            "harm 1 to 2 by 3", "harm fed 0 to at 6 by[1]", "pardon 1 to 2", "pass if day+done+latest+harms+starving=1",
            "pass if fed 06 = at0", "harm 1to 2by 3if 1=2", "feast 1 times 2"};
        for (String text : good) {
            orderFault(text, -1);
        }
        Object[][] bad = {{"", 0}, {"  ", 2}, {"pass 1", 5}, {"pass times", 10}, {"pass times 0", 11}, {"pass times 21", 11},
            {"pass times day", 11}, {"pass times 1 times 1", 13}, {"pass if 1=1 times 2", 12}, {"harm 1", 6},
            {"harm 1 2 by 3", 7}, {"harm 1 to 2 to 3", 12}, {"harm 1 to 2 by", 14}, {"pardon 1", 8}, {"pardon 1 to", 11},
            {"pardon 1 to 2 by 3", 14}, {"feast", 5}, {"feast if", 6}, {"feast fed", 9}, {"feast fed 7", 10},
            {"feast at day", 9}, {"feast at [1]", 9}, {"feast at 99999999999999", 9}, {"feast weight", 6}, {"feast mood", 6},
            {"feast doer", 6}, {"counts 1", 0}, {"bars", 0}, {"pass;", 5}, {"feast 1001", 6}, {"feast at", 8}};
        for (Object[] b : bad) {
            orderFault((String) b[0], (Integer) b[1]);
        }
        String twelve = Check.repeated("pass;", 11) + "pass";
        orderFault(twelve, -1);
        orderFault(twelve + ";pass", 60);
        String fifty = "feast " + Check.repeated("fed 1+", 49) + "1";
        orderFault(fifty + " times 2", -1);
        orderFault(fifty + "+at 1", 302);
    }

    /** What a SUM is: by how it HUNGERS, 0 .. 9. */
    private static void tells(String sum, int want) {
        BrokenBread x = Check.upland(5, 6);
        x.terms(2, 3);
        x.terms(0, 8);
        Check.law(x, "hungers 7;hungers " + sum);
        x.force(0);
        due("hungers " + sum, x.of(1, 2), want);
    }

    private static void so(String test, boolean want) {
        tells("1 if " + test, want ? 1 : 7);
    }

    private static void sums() {
        tells("2 + 3 * 2", 8);
        tells("[2 + 1] * 2", 6);
        tells("9 - 3 - 2", 4);
        tells("7 / 2", 3);
        tells("5 + [0 - 7] / 2", 2);
        tells("5 + [0 - 7] % 2", 4);
        tells("5 + 7 % [0 - 2]", 6);
        tells("8 / 2 / 2", 2);
        tells("8 / 4 * 2", 4);
        tells("1 / 0", 7);
        tells("1 % 0", 7);
        tells("0 * [1 / 0]", 7);
        tells("1000 * 1000 * 1000 / 1000 / 1000 / 500", 2);
        tells("1000 * 1000 * 1000 + 1", 7);
        tells("1000 * 1000 * 1000 + 1 - 1", 7);
        tells("1 + 1000 * 1000 * 1000 - 1", 7);
        tells("1 - 1000 * 1000 * 1000 - 1", 0);
        tells("0 - 1000 * 1000 * 1000 - 1", 7);
        tells("1000 * 1000 * 1000 * 1000 * 1000 * 1000 * 1000", 7);
        tells("100", 9);
        tells("0 - 100", 0);
        tells("doer + fed", 7);
        tells("day", 8);
        tells("mood", 3);
        tells("other + weight + age + size + 9", 5);
    }

    private static void tests() {
        so("1 < 2", true);
        so("2 < 2", false);
        so("2 > 1", true);
        so("2 > 2", false);
        so("1 + 1 = 2", true);
        so("not 1 = 2", true);
        so("not not 1 = 2", false);
        so("not 1 = 1 or 1 = 1", true);
        so("not (1 = 1 or 1 = 1)", false);
        so("1 = 1 or 1 = 1 and 1 = 2", true);
        so("(1 = 1 or 1 = 1) and 1 = 2", false);
        so("1 = 2 and 1 = 1 or 1 = 1", true);
        so("1 = 2 or 1 = 2 or 1 = 1", true);
        so("1 / 0 = 1", false);
        so("not 1 / 0 = 1", false);
        so("1 = 1 or 1 / 0 = 1", true);
        so("1 / 0 = 1 or 1 = 1", false);
        so("1 = 2 or 1 / 0 = 1", false);
        so("not (1 = 2 and 1 / 0 = 1)", true);
        so("not (1 = 1 and 1 / 0 = 1)", false);
        so("not (1 / 0 = 1 and 1 = 2)", false);
        so("1 = 2 and 1 / 0 = 1 or 1 = 1", true);
        so("1 = 1 or 1 / 0 = 1 and 1 / 0 = 1", true);
    }

    private static void lawWords() {
        BrokenBread x = Check.upland(4, 6, 2);
        x.terms(0, 10);
        x.harm(0, 1, 3);
        x.terms(0, 4);
        x.terms(2, 5);
        Check.law(x, "counts 9 if doer = 0 and other = 1 and weight = 3 and age = 0 - 6 and fed = 4 and size = 0 - 1 and day = 4"
                + " and mood = 5;counts 8 if doer = 1 and other = 0 and weight = 0 and age = 0 - 1 and fed = 6"
                + ";bars if doer = 2 and other = 1 and size = 0 - 1 and fed = 2");
        Check.law(x, "feeds 7 if doer = 1 and fed = 6 and size = 2 and other = 0 - 1 and weight = 0 - 1 and age = 0 - 1 and day = 4;"
                + "feeds 0 if doer = 0");
        x.force(0);
        due("counts knows its words", x.asks(0, 1, 2), 9);
        due("counts knows them without a HARM", x.asks(1, 0, 2), 8);
        due("COUNTS its WEIGHT without", x.asks(2, 1, 2), 0);
        due("bars knows its words", x.asks(2, 1, 3), 1);
        x.force(1);
        x.feast(3);
        due("feeds knows its words", x.of(1, 0), 9);
        due("feeds by 0", x.of(0, 0), 4);
    }

    private static void orders() {
        BrokenBread x = Check.upland(4, 6, 0, 3);
        due("11: how many", Check.orders(x, "harm 0 to 1 by 2;harm 1 to 2 by 3;pass times 2;feast 3"), 5);
        due("11: the TAPE is empty then", x.count(6), 0);
        due("11: status", x.status(), 0);
        due("12: no FAULT", x.fault(), -1);
        due("13: none", x.stopped(), -1);
        due("11: HARMS", x.count(1), 2);
        due("11: on DAY", x.asks(1, 2, 1), 0);
        due("11: FED", x.of(0, 0), 4);
        due("11: each can be undone", x.count(5), 5);
        due("11: one can't be", Check.orders(x, "pass;pardon 0 to 1;pardon 0 to 1"), -3);
        due("13: which", x.stopped(), 2);
        due("12: none", x.fault(), -1);
        due("11: all is as it was, DAY", x.count(13), 2);
        due("11: HARMS", x.asks(0, 1, 0), 2);
        due("11: FED", x.of(0, 0), 4);
        due("11: what can be undone", x.count(5), 5);
        due("11: REFUSED once", x.count(9), 1);
        due("11: the first", Check.orders(x, "feast 1 / 0;pass"), -3);
        due("13: the first", x.stopped(), 0);
        due("11: a TEXT that can't be", Check.orders(x, "pass times 0"), -6);
        due("13: none of it", x.stopped(), -1);
        due("12: its place", x.fault(), 11);
        due("11: an empty TAPE", x.orders(), -6);
        due("12: at 0", x.fault(), 0);
        due("11: none run", Check.orders(x, "pass if 1 = 2;pass if 1 / 0 = 1;feast 1 / 0 if day = 0"), 0);
        due("11: DAY", x.count(13), 2);
        due("19: by ORDERS, too", x.undo(), 1);
        due("19: by ORDERS, too", x.undo(), 3);
    }

    private static void ordersThatCantBe() {
        String[] all = {"harm 0 to 0 by 1", "harm 0 to 1 by 0", "harm 0 to 1 by 10", "harm 0 to 2 by 1", "harm 0 to 1 by 4",
            "feast 128", "feast 0 - 1", "feast 1", "feast 5", "pardon 1 to 0", "pardon 0 to 0", "pardon 0 to 6",
            "harm 1 / 0 to 1 by 1", "harm 0 to 1 by 1000 * 1000 * 1000 * 2", "pass times 2", "pardon 0 to 1 times 2"};
        for (String text : all) {
            BrokenBread x = Check.upland(4, 6);
            x.harm(0, 1, 4);
            x.terms(0, 998);
            due("11: " + text, Check.orders(x, text), -3);
            due("13: " + text, x.stopped(), 0);
            due("11: stays, HARMS", x.asks(0, 1, 0), 4);
            due("11: stays, FED", x.of(0, 0), 4);
            due("11: stays, DAY", x.count(13), 998);
            due("11: nothing to undo", x.count(5), 0);
        }
    }

    /** A word's number, by the WEIGHT of a HARM. */
    private static void orderWord(String ahead, String sum, int want) {
        BrokenBread x = Check.upland(4, 1, 0);
        x.terms(0, 5);
        x.harm(0, 1, 9);
        Check.orders(x, ahead + "harm 2 to 1 by " + sum);
        due("11: " + ahead + sum, x.asks(2, 1, 0), want);
    }

    /** What one TEXT leaves behind must not reach the next. */
    private static void manyTexts() {
        BrokenBread x = Check.upland(4, 6, 0);
        x.image(0);
        String longest = "counts " + Check.repeated("1+", 49) + "1;" + Check.repeated("bars;", 10) + "bars";
        for (int k = 0; k < 20; k++) {
            due("10: again", Check.law(x, longest), 0);
            due("10: not whole", Check.law(x, "counts 1 if [[1 + 2"), -6);
            due("11: again", Check.orders(x, "harm 0 to 1 by 1 + " + k % 9 + ";pass if at 0 = 2"), 2);
            due("40: back", x.back(0), 0);
        }
        Check.law(x, "counts 3");
        x.force(0);
        due("10: the latest", x.asks(0, 1, 2), 3);
    }

    private static void ages() {
        BrokenBread x = Check.upland(4, 6);
        Check.law(x, "counts 8 if age = 2 and weight = 1");
        x.force(0);
        x.harm(1, 0, 1);
        x.terms(0, 2);
        due("age of a HARM of WEIGHT 1", x.asks(1, 0, 2), 8);
    }

    private static void orderWords() {
        orderWord("", "day", 5);
        orderWord("pass;", "day", 6);
        orderWord("", "done + 1", 1);
        orderWord("pass times 3;pass if 1 = 2;", "done + 1", 4);
        orderWord("", "latest + 2", 1);
        orderWord("feast 3;pass;", "latest + 2", 4);
        orderWord("feast 3;harm 0 to 2 by 1;harm 1 to 2 by 1;feast 7;", "latest + 2", 5);
        orderWord("", "harms", 1);
        orderWord("harm 1 to 0 by 1;", "harms", 2);
        orderWord("pardon 0 to 1;", "harms + 3", 3);
        orderWord("", "starving", 1);
        orderWord("pass;", "starving", 2);
        orderWord("", "fed 0", 4);
        orderWord("pass;", "fed 0", 3);
        orderWord("", "fed 2 + 1", 1);
        orderWord("", "fed 3 + 2", 1);
        orderWord("", "at 0", 2);
        orderWord("", "at 1", 1);
        orderWord("", "at 2 + 7", 7);
        orderWord("", "at 6 + 2", 1);
        orderWord("harm 0 to 2 by 1;", "at 0", 6);
        orderWord("pass times 4 if done < 2;", "done", 2);
    }

    public static void main(String[] args) {
        feedAndEnd();
        rows();
        laws();
        lawGrammar();
        lawLimits();
        orderGrammar();
        sums();
        tests();
        lawWords();
        orders();
        ordersThatCantBe();
        orderWords();
        manyTexts();
        ages();
        CHECK.close();
    }
}
