/** For each promise its ordinary answers, its edges and its refusals, worked out by hand from the document. */
public final class PromisesTest {
    private static final int FAR_NONE = -10000001, FAR_BAD = -10000002;
    private static final Check check = new Check();

    private static void due(String call, long got, long want) {
        check.due(call, got, want);
    }

    public static void main(String[] args) {
        newObject();
        person();
        of();
        sellingDays();
        set();
        there();
        row();
        feed();
        town();
        faults();
        conditions();
        told();
        day();
        lastDayOfYear();
        by();
        years();
        birth();
        plan();
        quiet();
        foundling();
        forged();
        change();
        rest();
        reckoning();
        high();
        last();
        odds();
        mean();
        book();
        looked();
        judge();
        image();
        act();
        taken();
        count();
        tape();
        item();
        shift();
        check.end();
    }

    private static void newObject() {
        BirthTenth x = new BirthTenth();
        due("1 NONE", BirthTenth.NONE, -1);
        due("1 BAD", BirthTenth.BAD, -2);
        due("1 STATE", BirthTenth.STATE, -3);
        due("1 FULL", BirthTenth.FULL, -4);
        due("1 NO", BirthTenth.NO, Long.MIN_VALUE);
        for (int what = 0; what <= 4; what++) {
            due("1 count " + what, x.count(what), 0);
        }
        due("1 no town: due", x.told(0), 10);
        due("1 no town: cost", x.told(1), 1);
        due("1 no town: feast", x.told(2), 99);
        due("1 date", x.told(3), 0);
        due("1 year", x.told(4), 0);
        due("1 purses", x.told(5), 0);
        for (int tape = 0; tape < 6; tape++) {
            due("1 tape " + tape, x.item(tape, 0, 1), -11);
        }
    }

    private static void person() {
        BirthTenth x = new BirthTenth();
        due("2 kind below", x.person(-1, 10, 12, 12), -1);
        due("2 kind above", x.person(7, 0, 0, 0), -1);
        due("2 v below", x.person(0, -1, 0, 0), -2);
        due("2 v above", x.person(0, 10, 0, 0), -2);
        due("2 born below", x.person(0, 0, -1, 0), -2);
        due("2 born above", x.person(0, 0, 12, 0), -2);
        due("2 plan below", x.person(0, 0, 0, -1), -2);
        due("2 plan above", x.person(0, 0, 0, 12), -2);
        due("2 nobody came", x.count(0), 0);
        for (int kind = 0; kind < 7; kind++) {
            due("2 number " + kind, x.person(kind, 9, 11, 11), kind);
        }
        due("2 full", x.person(0, 0, 0, 0), -4);
        due("2 bad ahead of full", x.person(0, 0, 0, 12), -2);
        due("2 none ahead of full", x.person(7, 0, 0, 0), -1);
        due("2 seven", x.count(0), 7);
    }

    private static void of() {
        BirthTenth x = new BirthTenth();
        x.person(3, 4, 7, 10);
        int[] want = {3, 4, 7, 10, 1, 2, 4, 100, 0};
        for (int what = 0; what < want.length; what++) {
            due("3 of " + what, x.of(0, what), want[what]);
        }
        due("3 what below", x.of(0, -1), FAR_NONE);
        due("3 what above", x.of(0, 9), FAR_NONE);
        due("3 person below", x.of(-1, 0), FAR_NONE);
        due("3 person above", x.of(1, 0), FAR_NONE);
        Check.town(x, "take 7 d=2;take 4 d=3;cost 5");
        due("3 takes on its day", x.of(0, 7), 70);
        Check.town(x, "take 7 d=2;take 4 d=3;feast 2");
        due("3 day behind the feast", x.of(0, 5), 3);
        due("3 put off behind the feast", x.of(0, 6), 5);
        due("3 takes behind the feast", x.of(0, 7), 40);
        x.there(0, false);
        due("3 gone", x.of(0, 4), 0);
        due("3 one that is gone still has a day", x.of(0, 5), 3);
        Check.town(x, "due 10");
        x.there(0, true);
        x.set(0, 1, 0);
        for (int i = 0; i < 5; i++) {
            x.day();
        }
        due("3 purse", x.of(0, 8), 96);
        due("9 purses of all, the first's too", x.told(5), 96);
    }

    private static void sellingDays() {
        BirthTenth x = new BirthTenth();
        x.person(0, 0, 5, 5);
        x.person(1, 0, 6, 5);
        due("T hater's day is the next one", x.of(1, 5), 6);
        x.set(1, 1, 4);
        due("T hater's day is the plan", x.of(1, 5), 4);
        x.set(0, 0, 11);
        x.set(1, 1, 11);
        due("T hater's day goes round", x.of(1, 5), 0);
        due("T put off goes round", x.of(1, 6), 1);
        x.there(0, false);
        due("T hater shuns one that is gone", x.of(1, 5), 0);
        x.person(2, 3, 2, 8);
        due("T cousin of 3 modulo 3 people", x.of(2, 5), 11);
        x.person(3, 9, 2, 8);
        due("T late goes round", x.of(3, 5), 5);
        due("T cousin of 3 modulo 4 people", x.of(2, 5), 2);
        x.person(5, 0, 2, 8);
        due("T fond of one that is gone", x.of(4, 5), 8);
        x.there(0, true);
        due("T fond", x.of(4, 5), 11);
        x.person(4, 0, 1, 11);
        due("T shunning shuns one's day", x.of(5, 5), 0);
        x.set(5, 1, 1);
        due("T shunning minds not one alone", x.of(5, 5), 1);
        x.set(5, 1, 2);
        due("T shunning shuns three", x.of(5, 5), 3);
        x.there(2, false);
        due("T shunning shuns two", x.of(5, 5), 3);
        x.there(3, false);
        due("T shunning counts who are there", x.of(5, 5), 2);
        Check.town(x, "feast 2");
        due("T the feast puts off", x.of(5, 5), 3);
        Check.town(x, "feast 11");
        due("T the feast puts off round", x.of(4, 5), 0);
        due("T put off by the feast", x.of(4, 6), 4);
    }

    private static void set() {
        BirthTenth x = new BirthTenth();
        x.person(0, 0, 3, 5);
        due("4 born", x.set(0, 0, 11), 3);
        due("4 born again", x.set(0, 0, 0), 11);
        due("4 plan", x.set(0, 1, 7), 5);
        due("4 born is", x.of(0, 2), 0);
        due("4 plan is", x.of(0, 3), 7);
        due("4 person", x.set(1, 0, 0), -1);
        due("4 person below", x.set(-1, 0, 0), -1);
        due("4 what below", x.set(0, -1, 0), -1);
        due("4 what", x.set(0, 2, 0), -1);
        due("4 none ahead of bad", x.set(0, 2, 12), -1);
        due("4 above", x.set(0, 0, 12), -2);
        due("4 below", x.set(0, 1, -1), -2);
        due("4 nothing changed", x.of(0, 2) * 100 + x.of(0, 3), 7);
    }

    private static void there() {
        BirthTenth x = new BirthTenth();
        due("5 nobody", x.there(0, false), -1);
        x.person(0, 0, 3, 5);
        due("5 was there", x.there(0, false), 1);
        due("5 was gone", x.there(0, false), 0);
        due("5 was gone, comes", x.there(0, true), 0);
        due("5 stays", x.there(0, true), 1);
        due("5 below", x.there(-1, true), -1);
        due("5 above", x.there(1, true), -1);
    }

    private static void row() {
        BirthTenth x = new BirthTenth();
        x.person(6, 0, 3, 5);
        x.person(0, 0, 3, 5);
        due("6 first", x.row(0, 0, 11), 0);
        due("6 second", x.row(0, 1, 4), 0);
        due("6 fourth", x.row(0, 3, 7), 0);
        due("6 was", x.row(0, 3, 8), 7);
        due("6 year 0", x.of(0, 5), 11);
        due("6 part below", x.row(0, -1, 0), -1);
        due("6 part above", x.row(0, 4, 0), -1);
        due("6 person", x.row(2, 0, 0), -1);
        due("6 n below", x.row(0, 0, -1), -2);
        due("6 n above", x.row(0, 0, 12), -2);
        due("6 none ahead of bad", x.row(0, 4, 12), -1);
        due("6 bad ahead of state", x.row(1, 0, 12), -2);
        due("6 another kind", x.row(1, 0, 0), -3);
        int[] days = {11, 4, 0, 8, 11};
        for (int year = 0; year < days.length; year++) {
            due("6 year " + year, x.of(0, 5), days[year]);
            for (int i = 0; i < 12; i++) {
                x.day();
            }
        }
    }

    private static void feed() {
        BirthTenth x = new BirthTenth();
        due("7 below", x.feed(-1), -2);
        due("7 above", x.feed(128), -2);
        for (int i = 1; i <= 100; i++) {
            due("7 sign " + i, x.feed(i == 1 ? 0 : 127), i);
        }
        due("7 full", x.feed(0), -4);
        due("7 bad ahead of full", x.feed(128), -2);
        due("7 stays", x.count(3), 100);
        due("7 read", x.town(), -10);
        due("7 empty", x.feed(0), 1);
    }

    private static void town() {
        BirthTenth x = new BirthTenth();
        due("8 empty text", x.town(), -10);
        due("8 first", Check.town(x, "due 20;cost 3;feast 4"), 0);
        due("8 due", x.told(0), 20);
        due("8 cost", x.told(1), 3);
        due("8 feast", x.told(2), 4);
        due("8 fault", Check.town(x, "due 30;cast 3"), -18);
        due("8 the one that held holds", x.told(0), 20);
        due("8 text is empty behind a fault", x.count(3), 0);
        due("8 takes, then a fault", Check.town(x, "take 1 p=0;take 1 p=0;x"), -32);
        due("8 second", Check.town(x, "due 1;due 99;cost 07"), 1);
        x.person(0, 0, 0, 0);
        due("8 nothing is left of what had a fault", x.of(0, 7), 100);
        due("8 the last due", x.told(0), 99);
        due("8 the last cost", x.told(1), 7);
        due("8 no feast", x.told(2), 99);
        for (int i = 2; i < 6; i++) {
            due("8 number " + i, Check.town(x, "cost " + i), i);
        }
        due("8 full", Check.town(x, "cost 9"), -4);
        due("8 text stays", x.count(3), 6);
        due("8 the sixth holds", x.told(1), 5);
        due("8 six", x.count(1), 6);
        due("8 full, whatever the text", Check.town(x, "x"), -4);
    }

    private static void faults() {
        String ten = "due 1;due 1;due 1;due 1;due 1;due 1;due 1;due 1;due 1;due 1";
        String[] fit = {
            "take 0 p=0", "take 99 k>99", "take 1 p<1&k=1|d>1&c=1|y<1&b=1", "take 1 !!!!p=1", "take 1 !(!(p=1))",
            "take 1 ((((p=1))))|((((p=1))))", "take 1 !p=1&!p=1|!p=1", "due 0", "feast 00", ten,
            "take 1 (p=1&(k=2|d=3))&!(c=1|y=1);due 5", "take 1 p=1;take 1 p=1",
        };
        for (String text : fit) {
            BirthTenth x = new BirthTenth();
            due("8 " + text, Check.town(x, text), 0);
        }
        Object[][] faulty = {
            {"", 0}, {"x", 0}, {";due 1", 0}, {" due 1", 0}, {"Due 1", 0},
            {"dua", 2}, {"due", 3}, {"due1", 3}, {"due  1", 4}, {"due ", 4}, {"due -1", 4}, {"due 123", 6},
            {"due 1 ", 5}, {"due 1;", 6}, {"due 1;;", 6}, {"due 1; due 1", 6}, {"due 1,", 5},
            {"c", 1}, {"coat", 2}, {"cost 1 p=1", 6}, {"f", 1}, {"fest", 2}, {"feast 1&", 7},
            {"take", 4}, {"take ", 5}, {"take p=1", 5}, {"take 1", 6}, {"take 1;", 6}, {"take 1 ", 7},
            {"take 1  p=1", 7}, {"take 1 ;", 7}, {"take 1 a=1", 7}, {"take 1 p", 8}, {"take 1 p!1", 8}, {"take 1 p1", 8},
            {"take 1 p==1", 9}, {"take 1 p=", 9}, {"take 1 p=b", 9}, {"take 1 p=123", 11}, {"take 1 p=1)", 10},
            {"take 1 p=1 ", 10}, {"take 1 p=1p", 10}, {"take 1 p=1&", 11}, {"take 1 p=1|;", 11},
            {"take 1 p=1&&p=1", 11}, {"take 1 p=1|)", 11}, {"take 1 (", 8}, {"take 1 ()", 8}, {"take 1 (p=1", 11},
            {"take 1 (p=1;", 11}, {"take 1 (p=1))", 12}, {"take 1 (p=1)(", 12}, {"take 1 !", 8}, {"take 1 !)", 8},
            {"take 1 !&", 8}, {"take 1 !p=1!", 11}, {"take 1 !!!!!p=1", 11}, {"take 1 (((((", 11},
            {"take 1 !(!((p=1)))", 11}, {"take 1 !(!(p=1&!p=1", 15}, {"take 1 !(!(p=1&p=1|(", 19},
            {ten + ";", 59}, {ten + ";due 1", 59}, {ten + "x", 59},
        };
        for (Object[] row : faulty) {
            BirthTenth x = new BirthTenth();
            due("8 " + row[0], Check.town(x, (String) row[0]), -10 - (Integer) row[1]);
            due("8 no town of " + row[0], x.count(1), 0);
        }
        BirthTenth x = new BirthTenth();
        String full = "take 1 p=1";
        while (full.length() < 98) {
            full += "|p=1";
        }
        due("8 the end of a text of 100", Check.town(x, full + "|p"), -110);
        due("8 a text of 98", Check.town(x, full), 0);
    }

    /** What an E takes, on one day (3), of person 1 of kind 2, born on day 7, in year 0, three born on day 3. */
    private static void conditions() {
        Object[][] rows = {
            {"p=1", 1}, {"p<1", 0}, {"p>1", 0}, {"p<2", 1}, {"p>0", 1}, {"k=2", 1}, {"d=3", 1}, {"c=3", 1}, {"y=0", 1},
            {"b=7", 1}, {"b=3", 0}, {"c<3", 0}, {"!p=1", 0}, {"!!p=1", 1}, {"!p=0", 1},
            {"p=1&k=2", 1}, {"p=1&k=1", 0}, {"p=0&k=2", 0}, {"p=0|k=2", 1}, {"p=1|k=1", 1}, {"p=0|k=0", 0},
            {"p=1|k=0&d=0", 1}, {"(p=1|k=0)&d=0", 0}, {"d=0&k=0|p=1", 1}, {"d=0&(k=0|p=1)", 0},
            {"!p=1&k=0", 0}, {"!(p=1&k=0)", 1}, {"!p=1|k=2", 1}, {"!(p=1|k=2)", 0}, {"p=0|k=0|d=3", 1},
            {"p=1&k=2&d=0", 0}, {"p=0|k=2&d=3|c=0", 1}, {"p=0|k=2&d=0|c=0", 0}, {"p=1|k=2|d=3", 1},
            {"p=1|k=0|d=0", 1}, {"p=0|k=2|d=0", 1}, {"p=0|k=0|d=0|c=0", 0}, {"p=1|k=0&d=0|c=0", 1},
            {"p=1&!(k=0|!(d=3&c=3))", 1}, {"p=0&k=0|d=3&c=3", 1}, {"p=0&k=0|d=3&c=0", 0},
        };
        for (Object[] row : rows) {
            BirthTenth x = new BirthTenth();
            x.person(0, 0, 3, 0);
            x.person(2, 0, 7, 0);
            x.person(0, 0, 3, 0);
            x.person(0, 0, 3, 0);
            Check.town(x, "take 2 " + row[0]);
            due("T " + row[0], x.of(1, 7), 20 * (Integer) row[1]);
        }
        BirthTenth x = new BirthTenth();
        x.person(0, 0, 3, 3);
        due("T without clauses", x.of(0, 7), 100);
        Check.town(x, "due 5");
        due("T without take clauses", x.of(0, 7), 100);
        Check.town(x, "take 3 p=0;take 99 p=1;take 20 b=3;take 1 c=1");
        due("T all that hold, together", x.of(0, 7), 240);
        Check.town(x, "take 3 p=1");
        due("T none holds", x.of(0, 7), 0);
        x.there(0, false);
        Check.town(x, "take 3 c=1;take 2 c=0");
        due("T one that is gone does not count as born", x.of(0, 7), 20);
        Check.town(x, "take 3 y=1;take 2 y=0");
        x.there(0, true);
        due("T year 0", x.years(0), 20);
        for (int i = 0; i < 4; i++) {
            x.day();
        }
        due("T year 1", x.by(0, 12, 0) - x.of(0, 8), 30);
        Check.town(x, "take 3 y=1;take 2 y=0;due 1");
        for (int i = 0; i < 116; i++) {
            x.day();
        }
        due("T year 10", x.told(4), 10);
        due("T year 10 modulo 10", x.of(0, 7), 20);
    }

    private static void told() {
        BirthTenth x = new BirthTenth();
        x.person(0, 0, 3, 5);
        x.person(0, 0, 3, 6);
        x.person(0, 0, 11, 5);
        due("9 sell on 0", x.told(30), 0);
        x.set(1, 1, 0);
        due("9 one sells on 0", x.told(30), 2);
        x.set(1, 1, 6);
        due("9 born on 3", x.told(13), 3);
        due("9 born on 11", x.told(21), 4);
        due("9 born on 0", x.told(10), 0);
        due("9 sell on 5", x.told(35), 5);
        due("9 sell on 6", x.told(36), 2);
        due("9 sell on 11", x.told(41), 0);
        x.there(0, false);
        due("9 born and there", x.told(13), 2);
        due("9 sells, there or not", x.told(35), 5);
        int[] none = {-1, 6, 7, 8, 9, 22, 29, 42, Integer.MAX_VALUE, Integer.MIN_VALUE};
        for (int what : none) {
            due("9 what " + what, x.told(what), FAR_NONE);
        }
        for (int i = 0; i < 19; i++) {
            x.day();
        }
        due("9 date", x.told(3), 7);
        due("9 year", x.told(4), 1);
        x.there(2, false);
        due("9 purses of all", x.told(5), 400);
    }

    private static void day() {
        BirthTenth x = new BirthTenth();
        due("10 nobody", x.day(), 0);
        due("10 the next day", x.told(3), 1);
        x = new BirthTenth();
        Check.town(x, "take 9 p=0;take 11 p=1;take 5 p=2;due 15;cost 3");
        x.person(0, 0, 0, 0);
        x.person(2, 0, 5, 10);
        x.person(0, 0, 0, 0);
        // 90, 110 and 50 taken: 13, 16 and 7 of it due, 36 for two.
        due("10 dues", x.day(), 36);
        due("10 sells and gets a half", x.of(0, 8), 90 - 13 + 18);
        due("10 put off by 2", x.of(1, 8), 110 - 6 - 16);
        due("10 third", x.of(2, 8), 50 - 7 + 18);
        x = new BirthTenth();
        Check.town(x, "take 5 p>2;due 9;cost 0");
        x.person(0, 0, 0, 6);
        x.person(0, 0, 0, 6);
        x.person(0, 0, 0, 6);
        for (int i = 0; i < 4; i++) {
            x.person(0, 0, 1, 0);
        }
        x.there(0, false);
        x.there(6, false);
        // Three that are there take 50 each and pay 4 each; 12 for two, of 1 and 2.
        due("10 gone ones neither sell nor get", x.day(), 12);
        due("10 the gone heir", x.of(0, 8), 0);
        due("10 the first heir that is there", x.of(1, 8), 6);
        due("10 the gone seller", x.of(6, 8), 0);
        due("10 a seller", x.of(3, 8), 46);
        due("10 nobody sells on a birthday", x.day(), 0);
        x = new BirthTenth();
        Check.town(x, "take 7 p=3;due 10");
        x.person(0, 0, 0, 6);
        x.person(0, 0, 0, 6);
        x.person(0, 0, 0, 6);
        x.person(0, 0, 1, 0);
        x.person(0, 0, 1, 1);
        x.there(4, false);
        due("10 seven", x.day(), 7);
        due("10 odd penny to the first", x.of(0, 8), 3);
        due("10 second", x.of(1, 8), 2);
        due("10 third heir", x.of(2, 8), 2);
        x.there(3, false);
        x.there(4, true);
        x.set(4, 0, 2);
        due("10 nobody that is there is born: no dues", x.day(), 0);
        due("10 and nothing paid", x.of(4, 8), 0);
        x = new BirthTenth();
        Check.town(x, "take 7 p=3;due 10");
        x.person(0, 0, 0, 6);
        x.person(0, 0, 0, 6);
        x.person(0, 0, 1, 6);
        x.person(0, 0, 1, 0);
        due("11 odd pennies come too", x.by(0, 2, 1), 4);
        due("11 the second's part", x.by(1, 2, 1), 3);
        due("11 dues of a day go on that day alone", x.by(2, 2, 1), 0);
        x = new BirthTenth();
        Check.town(x, "due 99;cost 99");
        x.person(2, 0, 0, 1);
        due("10 pays to oneself", x.day(), 99);
        due("10 below 0", x.of(0, 8), 100 - 11 * 99);
        x.there(0, false);
        for (int i = 0; i < 12; i++) {
            x.day();
        }
        due("10 one that is gone", x.of(0, 8), 100 - 11 * 99);
        due("10 round", x.told(3) * 100 + x.told(4), 101);
    }

    /** The end of YEAR 999 lies behind the 512th call; what is free there still shows that nothing breaks. */
    private static void lastDayOfYear() {
        BirthTenth x = new BirthTenth();
        x.person(0, 0, 3, 11);
        x.person(0, 0, 11, 0);
        for (int i = 0; i < 998 * 12 + 11; i++) {
            x.day();
        }
        due("10 day 11 of year 998", x.told(4) * 100 + x.told(3), 99811);
        due("10 day 11 of year 998 goes", x.day(), 10);
        for (int i = 0; i < 10; i++) {
            due("10 day " + i + " of year 999 goes", x.day(), 0);
        }
        due("10 day 10 of year 999 goes", x.day(), 0);
        due("10 year 999", x.told(4) * 100 + x.told(3), 99911);
        due("10 purse of the first", x.of(0, 8), 999 * 90);
        due("10 purse of the second", x.of(1, 8), 1000 * 100 + 999 * 10);
        due("10 no further", x.day(), -3);
        due("10 still", x.told(4) * 100 + x.told(3), 99911);
        due("10 purses stay", x.told(5), 999 * 90 + 1000 * 100 + 999 * 10);
        due("11 goes on all the same", x.by(0, 60, 0), 999 * 90 + 5 * 90);
    }

    private static BirthTenth three() {
        BirthTenth x = new BirthTenth();
        x.person(0, 0, 3, 5);
        x.person(0, 0, 5, 3);
        x.person(2, 1, 8, 4);
        return x;
    }

    private static void by() {
        BirthTenth x = three();
        due("11 0 days", x.by(0, 0, 0), 0);
        due("11 3 days", x.by(0, 3, 0), 0);
        due("11 4 days", x.by(0, 4, 0), 10);
        due("11 4 days came", x.by(0, 4, 1), 10);
        due("11 6 days", x.by(0, 6, 0), 100);
        due("11 6 days came", x.by(0, 6, 1), 10);
        due("11 60 days", x.by(0, 60, 0), 500);
        due("11 60 days came", x.by(1, 60, 1), 100);
        due("11 60 days, put off", x.by(2, 60, 0), 445);
        due("11 asked alone", x.told(3) + x.of(0, 8), 0);
        due("11 person", x.by(3, 61, 0), FAR_NONE);
        due("11 person below", x.by(-1, 1, 0), FAR_NONE);
        due("11 what", x.by(0, 1, 2), FAR_NONE);
        due("11 what below", x.by(0, 61, -1), FAR_NONE);
        due("11 n below", x.by(0, -1, 0), FAR_BAD);
        due("11 n above", x.by(0, 61, 0), FAR_BAD);
        x.day();
        x.day();
        x.day();
        x.day();
        due("11 from then on: purse", x.by(0, 2, 0), 100);
        due("11 from then on: came", x.by(0, 2, 1), 0);
        due("11 purse with what it was", x.by(0, 60, 0), 510);
        x.there(0, false);
        due("11 gone", x.by(0, 60, 0), 10);
    }

    private static void years() {
        BirthTenth x = three();
        due("12 first", x.years(0), 100);
        due("12 second", x.years(1), 110);
        due("12 third", x.years(2), 89);
        for (int i = 0; i < 7; i++) {
            x.day();
        }
        due("12 how much more", x.years(0), 100);
        x.there(1, false);
        due("12 gone", x.years(1), 0);
        due("12 without the other", x.years(0), 100);
        due("12 none", x.years(3), FAR_NONE);
        due("12 below", x.years(-1), FAR_NONE);
        x = new BirthTenth();
        x.person(6, 0, 0, 0);
        x.row(0, 0, 9);
        x.row(0, 1, 2);
        for (int i = 0; i < 5; i++) {
            x.day();
        }
        due("12 twice by the next year's row", x.years(0), 91 + 98);
        x.row(0, 0, 2);
        x.row(0, 1, 9);
        due("12 not at all by the next year's row", x.years(0), 0);
    }

    private static void birth() {
        BirthTenth x = three();
        // On 3 all of 10, on 5 half of 20: alike, so the first.
        due("13 day", x.birth(0, 0), 3);
        due("13 most", x.birth(0, 1), 100);
        due("13 of the third, half of 20 on 5", x.birth(2, 0), 5);
        due("13 of the third: how much", x.birth(2, 1), 99);
        due("13 person", x.birth(3, 0), FAR_NONE);
        due("13 what", x.birth(0, 2), FAR_NONE);
        due("13 what below", x.birth(0, -1), FAR_NONE);
        due("13 asked alone", x.of(0, 2), 3);
        x = new BirthTenth();
        x.person(0, 0, 3, 5);
        x.person(0, 0, 4, 7);
        due("13 on the other's day", x.birth(0, 0), 7);
        due("13 on the other's day: how much", x.birth(0, 1), 110);
        x.there(0, false);
        due("13 gone: the first", x.birth(0, 0), 0);
        due("13 gone: nothing", x.birth(0, 1), 0);
    }

    private static void plan() {
        BirthTenth x = three();
        due("14 on 5 it pays, so another", x.plan(0, 0), 0);
        due("14 how much", x.plan(0, 1), 110);
        due("14 cousin", x.plan(2, 0), 5);
        due("14 cousin: how much", x.plan(2, 1), 90);
        due("14 person", x.plan(3, 0), FAR_NONE);
        due("14 person below", x.plan(-1, 0), FAR_NONE);
        due("14 what", x.plan(0, 2), FAR_NONE);
        due("14 asked alone", x.of(0, 3), 5);
        Check.town(x, "take 3 d=9;take 4 d=7");
        due("14 the day that brings most", x.plan(0, 0), 7);
        due("14 the most", x.plan(0, 1), 40);
        x.there(0, false);
        due("14 gone", x.plan(0, 0), 0);
    }

    private static void quiet() {
        BirthTenth x = new BirthTenth();
        due("15 nobody", x.quiet(), 4095);
        x.person(0, 0, 0, 0);
        x.person(0, 0, 0, 11);
        x.person(0, 0, 0, 11);
        x.person(6, 0, 0, 5);
        due("15 three days", x.quiet(), 4095 - 1 - 2048);
        x.there(1, false);
        due("15 another sells", x.quiet(), 4095 - 1 - 2048);
        x.there(2, false);
        due("15 nobody that is there", x.quiet(), 4094);
        x.row(3, 0, 4);
        due("15 by this year's row", x.quiet(), 4094 - 16);
    }

    private static void foundling() {
        BirthTenth x = new BirthTenth();
        due("16 alone", x.foundling(4, 0), 0);
        due("16 alone: how much", x.foundling(4, 1), 100);
        x.person(0, 0, 3, 5);
        x.person(0, 0, 3, 7);
        x.person(0, 0, 3, 7);
        due("16 on a day of two", x.foundling(4, 0), 7);
        due("16 on a day of two: how much", x.foundling(4, 1), 120);
        due("16 by a plan of somebody's birthday", x.foundling(3, 1), 110);
        due("16 nobody came", x.count(0), 3);
        due("16 what", x.foundling(12, 2), FAR_NONE);
        due("16 what below", x.foundling(0, -1), FAR_NONE);
        due("16 plan", x.foundling(12, 0), FAR_BAD);
        due("16 plan below", x.foundling(-1, 0), FAR_BAD);
        x.person(2, 3, 3, 4);
        due("16 with five people a cousin of 3 is one of 3", x.foundling(4, 1), 120);
        x.person(0, 0, 3, 4);
        x.person(0, 0, 3, 4);
        due("16 on a day of three", x.foundling(0, 1), 120);
        x.person(0, 0, 3, 4);
        due("16 seven", x.foundling(0, 0), -9);
        due("16 seven, bad plan first", x.foundling(12, 0), FAR_BAD);
        x = new BirthTenth();
        x.person(2, 1, 3, 4);
        // Alone the cousin is its own; of two the foundling is the one.
        due("16 that one is the foundling", x.foundling(6, 1), 110);
        due("16 that one: first day", x.foundling(6, 0), 0);
    }

    private static void forged() {
        BirthTenth x = three();
        due("17 below", x.forged(-1), -2);
        due("17 above", x.forged(10001), -2);
        due("17 none", x.forged(10000), -5);
        due("17 day 0 of the first", x.forged(90), 0);
        due("17 the first day but one's own", x.forged(100), 5);
        due("17 of the second", x.forged(95), 108);
        due("17 of the third", x.forged(94), 203);
        due("17 on one's own day alone", x.forged(110), -5);
        x.set(0, 0, 0);
        due("17 not the day that is", x.forged(90), 1);
        x.there(0, false);
        due("17 one that is gone", x.forged(0), 1);
        due("17 nobody", new BirthTenth().forged(0), -5);
    }

    private static void change() {
        BirthTenth x = three();
        due("18 changes", x.change(0), 1);
        x.set(0, 1, 0);
        due("18 does not", x.change(0), 0);
        x.set(0, 1, 11);
        due("18 not for the like", x.change(0), 0);
        due("18 none", x.change(3), -1);
        due("18 below", x.change(-1), -1);
        x.there(2, false);
        due("18 gone", x.change(2), 0);
    }

    /** A TOWN with its PEOPLE, each told by what person() takes. */
    private static BirthTenth peopled(String town, int[][] people) {
        BirthTenth x = new BirthTenth();
        Check.town(x, town);
        for (int[] one : people) {
            x.person(one[0], one[1], one[2], one[3]);
        }
        return x;
    }

    private static void rest() {
        BirthTenth x = new BirthTenth();
        due("19 nobody", x.rest(0), 0);
        due("19 none", x.rest(10), -1);
        x.person(0, 0, 3, 5);
        x.person(0, 0, 5, 3);
        due("19 both", x.rest(0), 2);
        due("19 the first one's plan", x.rest(10), 0);
        due("19 the second one's plan", x.rest(11), 0);
        due("19 no third", x.rest(12), -1);
        due("19 what", x.rest(1), -1);
        due("19 what below", x.rest(-1), -1);
        due("19 asked alone", x.of(0, 3), 5);
        x.there(0, false);
        due("19 gone ones do not change", x.rest(0), 0);
        due("19 gone one's plan", x.rest(10), 5);
        // Odd pennies: once the others have changed, the first does what it would not have done before.
        x = peopled("take 6 d<3;due 3;cost 1", new int[][] {{0, 0, 0, 0}, {5, 1, 0, 0}, {0, 2, 0, 3}});
        due("19 again in the second round", x.rest(0), 3);
        x = peopled("take 5 d<1;take 4 d=2;due 29;cost 2", new int[][] {{0, 1, 0, 1}, {0, 1, 0, 1}, {0, 6, 0, 0}, {0, 9, 0, 8}});
        due("19 eight changes of four", x.rest(0), 8);
        due("19 eight changes of four: the first one's plan", x.rest(10), 0);
        due("19 eight changes of four: the last one's plan", x.rest(13), 2);
        x = peopled("take 2 d=0;take 2 d=9", new int[][] {{0, 0, 9, 0}, {0, 0, 9, 0}, {0, 0, 0, 1}, {0, 0, 9, 0}, {0, 0, 9, 1}});
        due("19 nine changes are more than 8", x.rest(0), -5);
        due("19 nine changes: no plan then", x.rest(10), -5);
        due("19 nine changes: nor of one that changes once", x.rest(12), -5);
        due("19 nine changes: nobody", x.rest(15), -1);
        due("19 nine changes: asked alone", x.of(0, 3), 0);
        x = peopled("take 4 d=3;take 4 d=0;due 4;cost 0",
            new int[][] {{0, 2, 3, 1}, {0, 0, 3, 3}, {5, 0, 3, 0}, {0, 2, 0, 4}, {4, 6, 0, 0}, {0, 3, 0, 4}, {0, 0, 3, 1}});
        due("19 never at rest", x.rest(0), -5);
        due("19 never at rest: no plan then", x.rest(16), -5);
        due("19 never at rest: nobody", x.rest(17), -1);
        x = new BirthTenth();
        Check.town(x, "take 2 d=1;take 4 d=2;cost 0");
        x.person(0, 0, 0, 1);
        x.person(0, 0, 0, 2);
        due("19 one", x.rest(0), 1);
        due("19 its plan", x.rest(10), 2);
    }

    private static void reckoning() {
        BirthTenth x = new BirthTenth();
        x.person(2, 0, 4, 0);
        x.person(0, 0, 4, 11);
        due("20 as it is", x.reckoning(0), 0);
        due("20 nearer", x.reckoning(3), 3);
        due("20 behind", x.reckoning(5), -7);
        due("20 below", x.reckoning(-1), FAR_BAD);
        due("20 above", x.reckoning(12), FAR_BAD);
        x.there(0, false);
        due("20 gone", x.reckoning(3), 0);
        Check.town(x, "take 1 d=0;take 3 d=11");
        due("20 round", x.reckoning(1), -20);
        due("20 asked alone", x.of(1, 3), 11);
    }

    private static void high() {
        BirthTenth x = three();
        due("21 by 5 it would", x.high(0), 5);
        due("21 at once", x.high(2), 0);
        due("21 none", x.high(3), -1);
        due("21 below", x.high(-1), -1);
        x.set(0, 1, 0);
        due("21 by none", x.high(0), -5);
        x.set(0, 1, 5);
        // Day 5 brings 1 more than another: by 5 of a hundred a 100 pays 5, of 10 not one.
        Check.town(x, "take 2 d=5;take 1 d<99;due 99");
        due("21 by a higher due", x.high(0), 70);
        x.there(0, false);
        due("21 gone", x.high(0), -5);
    }

    private static void last() {
        BirthTenth x = three();
        // Without 0 the second gets 10 less and pays 10 less.
        due("22 first", x.last(0), 0);
        due("22 asked alone", x.of(0, 4), 1);
        // Without 1 the other two keep 10 each, and 0 gets no 10 from 1.
        due("22 second", x.last(1), -10);
        due("22 third", x.last(2), 10);
        x.there(0, false);
        due("22 gone", x.last(0), 0);
        due("22 others that are there", x.last(1), -10);
        due("22 none", x.last(3), FAR_NONE);
        due("22 below", x.last(-1), FAR_NONE);
    }

    private static void odds() {
        BirthTenth x = new BirthTenth();
        x.person(0, 0, 3, 5);
        x.person(0, 0, 4, 7);
        x.person(0, 0, 4, 8);
        x.person(0, 0, 4, 8);
        // 120 on day 8, 110 on day 7, else 100.
        due("23 any", x.odds(0, 0, 0), 1);
        due("23 any, below", x.odds(0, 0, 1), 1);
        due("23 day 7", x.odds(0, 7, 0), 1);
        due("23 day 7, below", x.odds(0, 7, 1), 6);
        due("23 day 8", x.odds(0, 8, 0), 1);
        due("23 day 8, below", x.odds(0, 8, 1), 12);
        due("23 person", x.odds(4, 0, 0), Long.MIN_VALUE);
        due("23 person below", x.odds(-1, 0, 0), Long.MIN_VALUE);
        due("23 day", x.odds(0, 12, 0), Long.MIN_VALUE);
        due("23 day below", x.odds(0, -1, 0), Long.MIN_VALUE);
        due("23 part", x.odds(0, 0, 2), Long.MIN_VALUE);
        due("23 part below", x.odds(0, 0, -1), Long.MIN_VALUE);
        x.there(0, false);
        due("23 gone", x.odds(0, 8, 1), 1);
    }

    private static void mean() {
        BirthTenth x = new BirthTenth();
        due("24 nobody", x.mean(0), Long.MIN_VALUE);
        x.person(2, 0, 4, 0);
        due("24 one", x.mean(0), 96);
        due("24 one, below", x.mean(1), 1);
        x.person(0, 0, 4, 0);
        x.person(0, 0, 9, 0);
        x.person(0, 0, 9, 0);
        due("24 four", x.mean(0), 99);
        due("24 four, below", x.mean(1), 1);
        x.there(3, false);
        due("24 three: 296", x.mean(0), 296);
        due("24 three: below", x.mean(1), 3);
        due("24 part", x.mean(2), Long.MIN_VALUE);
        due("24 part below", x.mean(-1), Long.MIN_VALUE);
        Check.town(x, "take 0 p=0;cost 2");
        due("24 below 0", x.mean(0), -8);
        due("24 below 0: below", x.mean(1), 3);
        Check.town(x, "take 0 p=0;cost 0");
        due("24 0", x.mean(0), 0);
        due("24 0: below", x.mean(1), 1);
        x.there(0, false);
        x.there(1, false);
        x.there(2, false);
        due("24 nobody there", x.mean(1), Long.MIN_VALUE);
    }

    private static void book() {
        BirthTenth x = new BirthTenth();
        due("25 empty already", x.book(-10000), 0);
        due("25 below", x.book(-10001), -2);
        due("25 above", x.book(10000), -2);
        for (int i = 1; i <= 12; i++) {
            due("25 row " + i, x.book(i % 2 == 0 ? 9999 : -9999), i);
        }
        due("25 full", x.book(0), -4);
        due("25 bad ahead of full", x.book(10000), -2);
        due("25 rows", x.count(2), 12);
        due("25 emptied", x.book(-10000), 0);
        due("25 no rows", x.count(2), 0);
        due("25 again", x.book(5), 1);
    }

    private static void looked() {
        BirthTenth x = new BirthTenth();
        due("26 nobody", x.looked(0), -3);
        due("26 bad ahead of state", x.looked(100), -2);
        due("26 below", x.looked(-1), -2);
        x.person(0, 0, 3, 1);
        due("26 no book", x.looked(0), -5);
        x.book(0);
        x.book(100);
        x.book(97);
        x.book(104);
        due("26 third", x.looked(2), 2);
        due("26 by a slip of 3", x.looked(3), 3);
        due("26 by a slip of 4", x.looked(4), -5);
        due("26 exact", x.looked(0), 2);
        x.day();
        due("26 from now on", x.looked(99), 0);
        x.day();
        x.there(0, false);
        due("26 gone, with its purse", x.looked(4), 0);
        x.book(-10000);
        x.book(100);
        due("26 gone, as it was", x.looked(0), -5);
        x.book(-10000);
        x.book(-9999);
        due("26 far off", x.looked(99), 0);
    }

    private static void judge() {
        BirthTenth x = new BirthTenth();
        due("27 nobody", x.judge(0, -1), -5);
        x.person(2, 0, 0, 0);
        x.person(0, 0, 1, 0);
        x.person(0, 0, 1, 5);
        x.day();
        due("27 holds nothing", x.judge(0, 0), 100);
        x.tape(0, 3, 4);
        x.item(0, 1, 110);
        x.item(0, 2, 90);
        due("27 all alike", x.judge(0, 1), -5);
        due("27 the first is otherwise", x.judge(0, 0), 0);
        x.item(0, 2, 91);
        due("27 the second is otherwise", x.judge(0, 1), 1);
        x.item(0, 2, 110 + (1L << 32));
        x.item(0, 3, 90);
        due("27 all of a long", x.judge(0, 2), 0);
        x.item(0, 2, 110);
        due("27 ends ahead", x.judge(0, 2), 102);
        due("27 the last place", x.judge(0, 4), 100);
        due("27 beyond", x.judge(0, 5), 100);
        due("27 far beyond", x.judge(0, Integer.MAX_VALUE), 100);
        due("27 below", x.judge(0, -1), 100);
        due("27 tape", x.judge(6, 0), -1);
        due("27 tape below", x.judge(-1, 0), -1);
        for (int sort : new int[] {0, 1, 2, 4}) {
            x.tape(1, sort, 5);
            due("27 another sort", x.judge(1, 0), -12);
        }
        BirthTenth empty = new BirthTenth();
        empty.tape(0, 2, 1);
        due("27 another sort, nobody", empty.judge(0, 0), -12);
        empty.tape(0, 3, 0);
        due("27 no items, nobody", empty.judge(0, 0), -5);
    }

    private static void image() {
        BirthTenth x = new BirthTenth();
        due("29 no image", x.undo(), -3);
        x.person(6, 2, 3, 5);
        x.row(0, 2, 7);
        Check.town(x, "due 20");
        x.book(50);
        x.tape(0, 2, 3);
        due("28 one", x.image(), 1);
        x.person(0, 0, 0, 0);
        x.set(0, 0, 1);
        x.set(0, 1, 2);
        x.row(0, 2, 8);
        x.book(60);
        x.there(0, false);
        Check.town(x, "due 30");
        x.day();
        x.there(0, true);
        for (int i = 0; i < 14; i++) {
            x.day();
        }
        x.there(0, false);
        x.item(0, 1, 5);
        x.feed('d');
        x.act(0, 0, 0);
        due("29 one", x.undo(), 1);
        int[] want = {6, 2, 3, 5, 1, 0, 7, 100, 0};
        for (int what = 0; what < want.length; what++) {
            due("29 of " + what, x.of(0, what), want[what]);
        }
        due("29 row", x.row(0, 2, 9), 7);
        due("29 date", x.told(3), 0);
        due("29 year", x.told(4), 0);
        due("29 the town that held", x.told(0), 20);
        due("29 how many towns stays", x.count(1), 2);
        due("29 book", x.count(2), 1);
        due("29 text stays", x.count(3), 1);
        due("29 trace stays", x.count(4), 2);
        due("29 tape stays", x.read(0, 1), 5);
        due("29 the next town", Check.town(x, "ue 40"), 2);
        due("29 again", x.undo(), 1);
        due("29 again: row", x.row(0, 2, 0), 7);
        due("29 again: town", x.told(0), 20);
        x.person(6, 0, 0, 0);
        for (int part = 0; part < 4; part++) {
            x.row(1, part, 9);
        }
        for (int i = 0; i < 12; i++) {
            x.day();
        }
        x.there(1, false);
        x.undo();
        x.person(6, 0, 0, 0);
        for (int part = 0; part < 4; part++) {
            due("29 a new one's row", x.row(1, part, 0), 0);
        }
        due("29 a new one's purse", x.of(1, 8), 0);
        due("29 a new one is there", x.of(1, 4), 1);
        due("28 two", x.image(), 2);
        x.there(1, false);
        x.undo();
        due("29 the latest image", x.of(1, 4), 1);
        BirthTenth y = new BirthTenth();
        due("28 nobody", y.image(), 0);
        Check.town(y, "cost 50");
        y.person(0, 0, 0, 0);
        due("29 nobody", y.undo(), 0);
        due("29 no town holds", y.told(1), 1);
        due("29 but there is one", y.count(1), 1);
    }

    private static void traced(BirthTenth x, String call, int... bodies) {
        due("33 bodies of " + call, x.count(4), bodies.length);
        for (int i = 0; i < bodies.length; i++) {
            due("31 body " + i + " of " + call, x.trace(i), bodies[i]);
        }
        due("31 behind the last of " + call, x.trace(bodies.length), -1);
    }

    private static void acted(BirthTenth x, int person, int act, int arg, int want, int... bodies) {
        String call = "act(" + person + ", " + act + ", " + arg + ")";
        due("30 " + call, x.act(person, act, arg), want);
        traced(x, call, bodies);
    }

    private static void act() {
        BirthTenth x = new BirthTenth();
        for (int kind = 0; kind < 7; kind++) {
            x.person(kind, kind + 3, 0, 0);
        }
        due("31 none yet", x.trace(0), -1);
        acted(x, 0, 0, 5, 5, 10);
        acted(x, 0, 1, 5, 2, 11, 10);
        acted(x, 0, 2, 5, 4, 12, 11, 10);
        acted(x, 1, 0, 5, 6, 10);
        acted(x, 1, 1, 5, (6 - 4) ^ 6, 20, 11, 10);
        acted(x, 1, 2, 5, 2 * ((6 - 4) ^ 6), 12, 20, 11, 10);
        acted(x, 2, 0, 5, 17, 30, 10);
        acted(x, 2, 1, 5, 12, 11, 30, 10);
        acted(x, 2, 2, 5, 24, 12, 11, 30, 10);
        acted(x, 3, 0, 5, 8, 10);
        acted(x, 3, 1, 5, 2, 11, 10);
        acted(x, 3, 2, 5, 4 + (1 + 3 - 6), 40, 12, 11, 10, 11, 10);
        acted(x, 4, 0, 5, -9, 50, 10);
        acted(x, 4, 1, 5, (-10 - 7) ^ 6, 51, 20, 11, 50, 10);
        acted(x, 4, 2, 5, 2 * ((-10 - 7) ^ 6), 12, 51, 20, 11, 50, 10);
        acted(x, 5, 0, 5, 20, 30, 10);
        acted(x, 5, 1, 5, 12, 11, 30, 10);
        acted(x, 5, 2, 5, 2 * (0 + 5 - 8), 60, 12, 11, 30, 10);
        acted(x, 6, 0, 5, 11 ^ 9, 71, 10);
        acted(x, 6, 1, 5, (11 ^ 9) - 9 + 8, 70, 11, 71, 10, 10);
        int tellsFive = 2 * ((11 ^ 9) - 9 + 8);
        int givesOne = (7 ^ 9) - 9 + 8;
        acted(x, 6, 2, 5, tellsFive + givesOne, 40, 12, 70, 11, 71, 10, 10, 70, 11, 71, 10, 10);
        due("31 below", x.trace(-1), -1);
        acted(x, 1, 0, Integer.MAX_VALUE, Integer.MIN_VALUE, 10);
        acted(x, 2, 0, Integer.MAX_VALUE, Integer.MAX_VALUE * 3 + 2, 30, 10);
        x.there(1, false);
        acted(x, 1, 0, 5, 6, 10);
        acted(x, 7, 0, 5, 0);
        x.act(6, 2, 5);
        acted(x, -1, 0, 5, 0);
        x.act(6, 2, 5);
        acted(x, 0, 3, 5, 0);
        x.act(6, 2, 5);
        acted(x, 0, -1, 5, 0);
    }

    private static void taken() {
        BirthTenth x = new BirthTenth();
        int[] above = {0, 0, 0, 0, 1, 2, 3};
        for (int kind = 0; kind < 7; kind++) {
            x.person(kind, 0, 0, 0);
            for (int k = 0; k < 7; k++) {
                boolean is = k == kind || k == 0 || k == above[kind];
                due("32 " + kind + " for " + k, x.taken(kind, k), is ? kind : -12);
            }
        }
        due("32 k below", x.taken(0, -1), -2);
        due("32 k above", x.taken(7, 7), -2);
        due("32 no such one", x.taken(7, 0), -11);
        due("32 below", x.taken(-1, 0), -11);
    }

    private static void count() {
        BirthTenth x = new BirthTenth();
        x.person(0, 0, 0, 0);
        x.person(0, 0, 0, 0);
        x.there(0, false);
        Check.town(x, "due 5");
        x.book(1);
        x.book(2);
        x.book(3);
        x.feed(1);
        x.feed(2);
        x.feed(3);
        x.feed(4);
        x.act(1, 1, 0);
        int[] want = {2, 1, 3, 4, 2};
        for (int what = 0; what < want.length; what++) {
            due("33 what " + what, x.count(what), want[what]);
        }
        due("33 below", x.count(-1), -2);
        due("33 above", x.count(5), -2);
    }

    private static void tape() {
        BirthTenth x = new BirthTenth();
        due("34 tape", x.tape(6, 9, 99), -1);
        due("34 tape below", x.tape(-1, 0, 1), -1);
        due("34 sort", x.tape(0, 5, -1), -2);
        due("34 sort below", x.tape(0, -2, 1), -2);
        due("34 too many", x.tape(0, 0, 61), -2);
        due("34 size", x.tape(0, 0, -1), -14);
        due("34 the most", x.tape(5, 4, 60), 1);
        due("34 last item", x.read(5, 59), 0);
        due("34 behind the last", x.read(5, 60), Long.MIN_VALUE);
        due("34 none", x.tape(5, 4, 0), 1);
        due("34 no first", x.read(5, 0), Long.MIN_VALUE);
        due("34 no items is not nothing", x.item(5, 0, 1), -13);
        x.tape(1, 3, 2);
        x.item(1, 1, 7);
        x.item(1, 0, 8);
        due("34 refused", x.tape(1, 3, 61), -2);
        due("34 refused changes nothing", x.read(1, 1), 7);
        x.tape(1, 3, 2);
        due("34 all 0", x.read(1, 0) + x.read(1, 1), 0);
        due("34 nothing", x.tape(1, -1, -99), 1);
        due("34 nothing, above", x.tape(1, -1, 99), 1);
        due("34 nothing there", x.item(1, 0, 0), -11);
        due("34 nothing to read", x.read(1, 0), Long.MIN_VALUE);
    }

    private static void item() {
        BirthTenth x = new BirthTenth();
        for (int sort = 0; sort < 5; sort++) {
            x.tape(sort, sort, 2);
        }
        long v = 0x123456789ABCDEF0L;
        long[] want = {(byte) 0xF0, (short) 0xDEF0, 0x9ABCDEF0, v, 1};
        for (int sort = 0; sort < 5; sort++) {
            due("35 item", x.item(sort, 1, v), 1);
            due("36 of sort " + sort, x.read(sort, 1), want[sort]);
            due("36 the other one", x.read(sort, 0), 0);
        }
        x.item(0, 0, 127);
        due("36 127", x.read(0, 0), 127);
        x.item(0, 0, 128);
        due("36 128", x.read(0, 0), -128);
        x.item(4, 0, 256);
        due("36 true", x.read(4, 0), 1);
        x.item(4, 0, 0);
        due("36 false", x.read(4, 0), 0);
        due("35 tape", x.item(6, 0, 0), -1);
        due("35 tape below", x.item(-1, 9, 0), -1);
        due("35 nothing", x.item(5, -1, 0), -11);
        due("35 place", x.item(0, 2, 0), -13);
        due("35 place below", x.item(0, -1, 0), -13);
        due("36 tape", x.read(6, 0), Long.MIN_VALUE);
        due("36 tape below", x.read(-1, 0), Long.MIN_VALUE);
        due("36 nothing", x.read(5, 0), Long.MIN_VALUE);
        due("36 place", x.read(0, 2), Long.MIN_VALUE);
        due("36 place below", x.read(0, -1), Long.MIN_VALUE);
    }

    private static void holds(BirthTenth x, String call, int tape, int... items) {
        for (int i = 0; i < items.length; i++) {
            due("37 " + call + ": item " + i, x.read(tape, i), items[i]);
        }
    }

    private static void shift() {
        BirthTenth x = new BirthTenth();
        x.tape(0, 2, 5);
        x.tape(1, 2, 3);
        x.tape(2, 3, 5);
        for (int i = 0; i < 5; i++) {
            x.item(0, i, i + 1);
        }
        due("37 to another", x.shift(0, 1, 1, 0, 3), 3);
        holds(x, "to another", 1, 2, 3, 4);
        holds(x, "to another, from", 0, 1, 2, 3, 4, 5);
        due("37 up", x.shift(0, 0, 0, 1, 4), 4);
        holds(x, "up", 0, 1, 1, 2, 3, 4);
        due("37 down", x.shift(0, 1, 0, 0, 4), 4);
        holds(x, "down", 0, 1, 2, 3, 4, 4);
        due("37 none, at the ends", x.shift(0, 5, 1, 3, 0), 0);
        due("37 none, beyond", x.shift(0, 6, 1, 3, 0), -13);
        due("37 none, beyond the other's", x.shift(0, 5, 1, 4, 0), -13);
        due("37 n below", x.shift(0, 0, 1, 0, -1), -13);
        due("37 i below", x.shift(0, -1, 1, 0, 1), -13);
        due("37 j below", x.shift(0, 0, 1, -1, 1), -13);
        due("37 too many", x.shift(0, 3, 1, 0, 3), -13);
        due("37 too many for the other", x.shift(0, 0, 1, 1, 3), -13);
        due("37 far too many", x.shift(0, 1, 1, 1, Integer.MAX_VALUE), -13);
        due("37 far off", x.shift(0, Integer.MAX_VALUE, 1, Integer.MAX_VALUE, 1), -13);
        due("37 unlike", x.shift(0, -1, 2, 0, 1), -12);
        due("37 nothing", x.shift(0, -1, 5, 0, 1), -11);
        due("37 from nothing", x.shift(5, 0, 2, 0, 1), -11);
        due("37 tape", x.shift(6, 0, 5, 0, 1), -1);
        due("37 other", x.shift(5, 0, 6, 0, 1), -1);
        due("37 below", x.shift(-1, 0, 0, 0, 1), -1);
        due("37 other below", x.shift(0, 0, -1, 0, 1), -1);
        holds(x, "refused", 1, 2, 3, 4);
    }
}
