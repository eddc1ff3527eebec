import java.util.Arrays;

/**
 * The document's boundary cases, promise by promise: the smallest and the largest that it allows, one beyond each, empty
 * and full, what goes round or wraps, and each refusal. Each call of a keeps(..) is made on one of two objects that are
 * alike, and leaves them alike.
 */
public final class EdgesTest {
    private static final Check check = new Check();

    private static final String[] NEW = {};
    /** Date 4 of year 0; person 0 sells on 6 for 40, person 1 on 4 for 90 less 2, person 2 is gone with 90. */
    private static final String[] SOME = {
        "person(0, 0, 3, 5)", "person(6, 1, 5, 3)", "person(4, 0, 3, 2)",
        "text(take 9 d<6;take 4 d>5;due 20;cost 2;feast 7)", "town()",
        "row(1, 0, 4)", "row(1, 1, 9)", "row(1, 2, 5)", "row(1, 3, 11)", "book(-5)", "book(88)",
        "tape(0, 0, 3)", "tape(1, 1, 3)", "tape(2, 2, 3)", "tape(3, 3, 3)", "tape(4, 4, 3)",
        "item(0, 1, 7)", "item(1, 1, 7)", "item(2, 1, 7)", "item(3, 2, 90)", "item(4, 1, 7)",
        "days(4)", "image()", "set(0, 1, 6)", "row(1, 2, 6)", "there(2, false)", "book(70)", "text(take 1 p=)", "act(1, 2, 5)",
    };
    private static final String[] FULL = {
        "person(0, 0, 0, 11)", "person(1, 1, 1, 10)", "person(2, 2, 2, 9)", "person(3, 3, 3, 8)", "person(4, 4, 4, 7)",
        "person(5, 5, 5, 6)", "person(6, 6, 6, 5)",
        "text(due 1)", "town()", "text(due 2)", "town()", "text(due 3)", "town()", "text(due 4)", "town()", "text(due 5)", "town()",
        "text(due 6)", "town()", "book(1)", "book(2)", "book(3)", "book(4)", "book(5)", "book(6)", "book(7)", "book(8)",
        "book(9)", "book(10)", "book(11)", "book(12)",
        "tape(0, 0, 60)", "tape(1, 1, 60)", "tape(2, 2, 60)", "tape(3, 3, 60)", "tape(4, 4, 60)", "tape(5, 3, 60)",
        "item(3, 59, 9)", "row(6, 3, 11)", "days(3)", "image()", "act(6, 2, 5)", "text(due 9;" + "take 9 p=1;".repeat(8) + "due 88)",
    };
    private static final String[][] ALL = {NEW, SOME, FULL};
    private static final String[][] FEW = {SOME, FULL};

    public static void main(String[] args) {
        newObject();
        person();
        of();
        sellingDays();
        set();
        there();
        row();
        feed();
        town();
        told();
        day();
        by();
        years();
        birth();
        plan();
        quiet();
        foundling();
        forged();
        change();
        rest();
        reckoning();
        high();
        last();
        odds();
        mean();
        book();
        looked();
        judge();
        image();
        undo();
        act();
        trace();
        taken();
        count();
        tape();
        item();
        read();
        shift();
        for (int promise = 1; promise <= 37; promise++) {
            check.due("all: no edges of promise " + promise, check.has(promise) ? 0 : 1, 0);
        }
        check.end();
    }

    /** On a new object, each call in its order. */
    private static void runs(String label, String... calls) {
        Calls.run(check, label, new BirthTenth(), calls);
    }

    /** On objects made so, each call alone: what it answers, and that nothing is changed by it. */
    private static void keeps(String label, String[][] made, String... calls) {
        for (String[] making : made) {
            for (String call : calls) {
                keepsBut(label, making, call);
            }
        }
    }

    /** A call changes nothing but what the calls behind it, made on both objects, set alike again. */
    private static void keepsBut(String label, String[] making, String call, String... behind) {
        for (int part = 0; part < Probe.PARTS; part++) {
            BirthTenth x = Calls.made(making);
            BirthTenth y = Calls.made(making);
            Calls.run(check, label, x, call);
            for (String next : behind) {
                Calls.ask(x, next);
                Calls.ask(y, next);
            }
            boolean alike = Probe.told(x, part).equals(Probe.told(y, part));
            check.due(label + ": " + call + " behind " + making.length + " calls changes what part " + part + " tells", alike ? 0 : 1, 0);
        }
    }

    private static String[] all(String format, Object... values) {
        return Arrays.stream(values).map(value -> String.format(format, value)).toArray(String[]::new);
    }

    private static void newObject() {
        runs("1 nobody, no town", "count(0) = 0", "count(1) = 0", "count(2) = 0", "count(3) = 0", "count(4) = 0",
            "told(0) = 10", "told(1) = 1", "told(2) = 99", "told(3) = 0", "told(4) = 0", "told(5) = 0", "told(10) = 0",
            "told(41) = 0", "of(0, 0) = FAR_NONE", "quiet() = 4095", "mean(0) = NO", "forged(0) = -5", "rest(0) = 0",
            "reckoning(11) = 0", "judge(0, 0) = -5", "trace(0) = NONE", "undo() = STATE", "looked(0) = STATE", "image() = 0");
        for (int tape = 0; tape < 6; tape++) {
            runs("1 tapes hold nothing", "item(" + tape + ", 0, 1) = NOTHING", "read(" + tape + ", 0) = NO");
        }
        for (int part = 0; part < Probe.PARTS; part++) {
            BirthTenth x = new BirthTenth();
            Calls.made(FULL);
            boolean alike = Probe.told(x, part).equals(Probe.told(new BirthTenth(), part));
            check.due("1 an object has nothing of another", alike ? 0 : 1, 0);
        }
    }

    private static void person() {
        runs("2 the smallest", "person(0, 0, 0, 0) = 0", "of(0, 0) = 0", "of(0, 1) = 0", "of(0, 2) = 0", "of(0, 3) = 0");
        runs("2 the largest", "person(6, 9, 11, 11) = 0", "of(0, 0) = 6", "of(0, 1) = 9", "of(0, 2) = 11", "of(0, 3) = 11");
        runs("2 there at first, a purse of 0, a row of 0", "person(6, 9, 11, 11) = 0", "of(0, 4) = 1", "of(0, 8) = 0",
            "row(0, 0, 1) = 0", "row(0, 1, 1) = 0", "row(0, 2, 1) = 0", "row(0, 3, 1) = 0");
        keeps("2 kind", ALL, all("person(%s, 0, 0, 0) = NONE", -1, 7, 8, "MAX", "MIN"));
        keeps("2 v", ALL, all("person(0, %s, 0, 0) = BAD", -1, 10, 11, "MAX", "MIN"));
        keeps("2 born", ALL, all("person(0, 0, %s, 0) = BAD", -1, 12, 13, "MAX", "MIN"));
        keeps("2 plan", ALL, all("person(0, 0, 0, %s) = BAD", -1, 12, 13, "MAX", "MIN"));
        keeps("2 none ahead of bad", ALL, "person(7, 10, 0, 0) = NONE", "person(-1, 0, 12, 0) = NONE", "person(7, 0, 0, 12) = NONE");
        keeps("2 full", new String[][] {FULL}, "person(0, 0, 0, 0) = FULL", "person(6, 9, 11, 11) = FULL");
        runs("2 gone ones take a place", "person(0, 0, 0, 0) = 0", "person(0, 0, 0, 0) = 1", "person(0, 0, 0, 0) = 2",
            "person(0, 0, 0, 0) = 3", "person(0, 0, 0, 0) = 4", "person(0, 0, 0, 0) = 5", "there(5, false) = 1", "there(0, false) = 1",
            "image() = 6", "person(0, 0, 0, 0) = 6", "there(6, false) = 1", "person(0, 0, 0, 0) = FULL", "count(0) = 7",
            "undo() = 6", "person(0, 0, 0, 0) = 6", "person(0, 0, 0, 0) = FULL");
    }

    private static void of() {
        keeps("3 person", ALL, all("of(%s, 0) = FAR_NONE", -1, 7, 8, "MAX", "MIN"));
        keeps("3 what", ALL, all("of(0, %s) = FAR_NONE", -1, 9, 10, "MAX", "MIN"));
        keeps("3 one beyond the last", new String[][] {SOME}, "of(3, 0) = FAR_NONE", "of(3, 8) = FAR_NONE");
        keeps("3 asked", new String[][] {SOME}, "of(0, 0) = 0", "of(0, 1) = 0", "of(0, 2) = 3", "of(0, 3) = 6", "of(0, 4) = 1",
            "of(0, 5) = 6", "of(0, 6) = 0", "of(0, 7) = 40", "of(0, 8) = 0", "of(1, 5) = 4", "of(1, 6) = 1", "of(1, 7) = 90");
        keeps("3 one that is gone", new String[][] {SOME}, "of(2, 0) = 4", "of(2, 1) = 0", "of(2, 2) = 3", "of(2, 3) = 2",
            "of(2, 4) = 0", "of(2, 5) = 2", "of(2, 6) = 0", "of(2, 7) = 90", "of(2, 8) = 90");
        keeps("3 the seventh", new String[][] {FULL}, "of(6, 0) = 6", "of(6, 1) = 6", "of(6, 2) = 6", "of(6, 3) = 5", "of(6, 4) = 1");
        runs("3 the most taken", "person(0, 0, 0, 0)", "text(" + "take 99 p=0;".repeat(7) + "take 99 p=0)", "town() = 0", "of(0, 7) = 7920");
        runs("3 takes of 0", "person(0, 0, 0, 0)", "text(take 99 p=1)", "town() = 0", "of(0, 7) = 0");
        runs("3 takes 0", "person(0, 0, 0, 0)", "text(take 00 p=0)", "town() = 0", "of(0, 7) = 0");
        runs("3 put off 0 and 11", "person(2, 0, 4, 4)", "of(0, 6) = 0", "set(0, 1, 5)", "of(0, 5) = 4", "of(0, 6) = 11",
            "set(0, 1, 3)", "of(0, 6) = 1");
        runs("3 a purse below 0", "text(take 0 p=0;cost 99)", "town()", "person(2, 0, 0, 1)", "day() = 0", "of(0, 8) = -1089");
    }

    private static void sellingDays() {
        runs("T hater shuns oneself too", "person(1, 0, 4, 4)", "of(0, 5) = 5", "there(0, false)", "of(0, 5) = 5", "set(0, 1, 3)", "of(0, 5) = 3");
        runs("T hater goes round", "person(1, 0, 11, 11)", "of(0, 5) = 0", "of(0, 6) = 1", "set(0, 0, 0)", "of(0, 5) = 11");
        runs("T hater minds no crowd", "person(0, 0, 3, 0)", "person(0, 0, 3, 0)", "person(0, 0, 3, 0)", "person(0, 0, 3, 0)", "person(0, 0, 3, 0)",
            "person(1, 6, 3, 3)", "person(0, 0, 4, 0)", "of(5, 5) = 3", "set(6, 0, 3)", "of(5, 5) = 4");
        runs("T late, modulo 12", "person(3, 0, 0, 11)", "of(0, 5) = 11", "person(3, 1, 0, 11)", "of(1, 5) = 0", "person(3, 9, 0, 11)",
            "of(2, 5) = 8", "of(2, 6) = 9", "person(3, 9, 0, 2)", "of(3, 5) = 11", "set(3, 1, 3)", "of(3, 5) = 0");
        runs("T that one, modulo 7", "person(0, 0, 0, 0)", "person(0, 0, 1, 0)", "person(0, 0, 2, 0)", "person(2, 9, 3, 0)",
            "of(3, 5) = 1", "person(2, 7, 4, 0)", "of(3, 5) = 4", "of(4, 5) = 2", "person(2, 5, 5, 0)", "of(3, 5) = 3", "of(4, 5) = 1",
            "of(5, 5) = 5", "person(2, 6, 6, 0)", "of(3, 5) = 2", "of(4, 5) = 0", "of(5, 5) = 5", "of(6, 5) = 6", "there(1, false)", "of(3, 5) = 2");
        runs("T shunning minds two, not one", "person(0, 0, 5, 0)", "person(4, 0, 3, 3)", "of(1, 5) = 3", "person(0, 0, 3, 0)",
            "of(1, 5) = 4", "there(2, false)", "of(1, 5) = 3", "there(2, true)", "there(1, false)", "of(1, 5) = 3", "set(1, 1, 5)", "of(1, 5) = 6");
        runs("T shunning goes round", "person(0, 0, 0, 0)", "person(0, 0, 11, 0)", "person(0, 0, 11, 0)", "person(4, 0, 5, 11)",
            "of(3, 5) = 1", "of(3, 6) = 2", "there(0, false)", "of(3, 5) = 1");
        runs("T shunning passes as many as can be", "person(0, 0, 3, 0)", "person(0, 0, 0, 0)", "person(0, 0, 0, 0)", "person(0, 0, 1, 0)",
            "person(0, 0, 1, 0)", "person(0, 0, 2, 0)", "person(4, 0, 2, 0)", "of(6, 5) = 4", "of(6, 6) = 4");
        runs("T fond of one that is gone: the plan", "person(5, 0, 4, 6)", "of(0, 5) = 4", "there(0, false)", "of(0, 5) = 6", "of(0, 6) = 0");
        runs("T cousin of one that is gone", "person(2, 0, 4, 6)", "there(0, false)", "of(0, 5) = 4");
        runs("T told, the year modulo 4", "person(6, 0, 0, 0)", "row(0, 0, 11)", "row(0, 1, 10)", "row(0, 2, 9)", "row(0, 3, 8)", "of(0, 5) = 11",
            "days(11)", "of(0, 5) = 11", "day()", "of(0, 5) = 10", "days(12)", "of(0, 5) = 9", "days(12)", "of(0, 5) = 8", "days(12)", "of(0, 5) = 11");
        runs("T feast 0", "person(0, 0, 5, 0)", "text(feast 0)", "town()", "of(0, 5) = 1", "of(0, 6) = 1", "set(0, 1, 11)", "of(0, 5) = 11");
        runs("T feast 11", "person(0, 0, 5, 11)", "text(feast 11)", "town()", "of(0, 5) = 0", "of(0, 6) = 1", "set(0, 1, 0)", "of(0, 5) = 0");
        runs("T feast beyond", "person(0, 0, 5, 0)", "text(feast 12)", "town()", "of(0, 5) = 0", "text(feast 99)", "town()", "of(0, 5) = 0");
        runs("T a hater put off by the feast on to the day shunned", "person(1, 0, 5, 4)", "text(feast 4)", "town()", "of(0, 5) = 5");
        runs("T told on the feast", "person(6, 0, 5, 4)", "row(0, 0, 11)", "text(feast 11)", "town()", "of(0, 5) = 0", "of(0, 6) = 8");
    }

    private static void set() {
        runs("4 the smallest and the largest", "person(0, 0, 3, 5)", "set(0, 0, 0) = 3", "set(0, 0, 11) = 0", "set(0, 0, 11) = 11",
            "of(0, 2) = 11", "of(0, 3) = 5", "set(0, 1, 0) = 5", "set(0, 1, 11) = 0", "of(0, 3) = 11", "of(0, 2) = 11");
        keeps("4 person", ALL, all("set(%s, 0, 0) = NONE", -1, 7, 8, "MAX", "MIN"));
        keeps("4 what", ALL, all("set(0, %s, 0) = NONE", -1, 2, 3, "MAX", "MIN"));
        keeps("4 n, born", FEW, all("set(0, 0, %s) = BAD", -1, 12, 13, "MAX", "MIN"));
        keeps("4 n, plan", FEW, all("set(0, 1, %s) = BAD", -1, 12, 13, "MAX", "MIN"));
        keeps("4 none ahead of bad", ALL, "set(7, 0, 12) = NONE", "set(0, 2, -1) = NONE");
        keeps("4 one beyond the last", new String[][] {SOME}, "set(3, 0, 0) = NONE");
        keepsBut("4 born alone", SOME, "set(0, 0, 9) = 3", "set(0, 0, 3)");
        keepsBut("4 plan alone", SOME, "set(0, 1, 9) = 6", "set(0, 1, 6)");
        keepsBut("4 of one that is gone", SOME, "set(2, 0, 11) = 3", "set(2, 0, 3)");
        keepsBut("4 of the seventh", FULL, "set(6, 1, 11) = 5", "set(6, 1, 5)");
    }

    private static void there() {
        keeps("5 person", ALL, "there(-1, true) = NONE", "there(7, false) = NONE", "there(8, true) = NONE", "there(MAX, false) = NONE",
            "there(MIN, true) = NONE");
        keeps("5 one beyond the last", new String[][] {SOME}, "there(3, true) = NONE");
        keeps("5 as it is", new String[][] {SOME}, "there(0, true) = 1", "there(2, false) = 0");
        keepsBut("5 is gone", SOME, "there(0, false) = 1", "there(0, true)");
        keepsBut("5 is there", SOME, "there(2, true) = 0", "there(2, false)");
        keepsBut("5 the seventh", FULL, "there(6, false) = 1", "there(6, true)");
    }

    private static void row() {
        runs("6 the smallest and the largest", "person(6, 0, 0, 0)", "row(0, 0, 11) = 0", "row(0, 3, 10) = 0", "row(0, 1, 9) = 0",
            "row(0, 2, 8) = 0", "row(0, 0, 0) = 11", "row(0, 3, 0) = 10", "row(0, 3, 11) = 0", "row(0, 1, 0) = 9", "row(0, 2, 0) = 8");
        keeps("6 person", ALL, all("row(%s, 0, 0) = NONE", -1, 7, 8, "MAX", "MIN"));
        keeps("6 one beyond the last", new String[][] {SOME}, "row(3, 0, 0) = NONE");
        keeps("6 part", new String[][] {SOME}, all("row(1, %s, 0) = NONE", -1, 4, 5, "MAX", "MIN"));
        keeps("6 n", new String[][] {SOME}, all("row(1, 0, %s) = BAD", -1, 12, 13, "MAX", "MIN"));
        keeps("6 another kind", new String[][] {FULL}, all("row(%s, 3, 11) = STATE", 0, 1, 2, 3, 4, 5));
        keeps("6 none ahead of bad ahead of state", FEW, "row(0, 4, 12) = NONE", "row(0, -1, 0) = NONE", "row(0, 0, 12) = BAD", "row(0, 0, 0) = STATE");
        keepsBut("6 that part alone", SOME, "row(1, 2, 0) = 6", "row(1, 2, 6)");
        keepsBut("6 of the seventh", FULL, "row(6, 3, 0) = 11", "row(6, 3, 11)");
        runs("6 one that is gone", "person(6, 0, 0, 0)", "there(0, false)", "row(0, 0, 4) = 0", "of(0, 5) = 4");
    }

    private static void feed() {
        runs("7 the smallest and the largest", "feed(0) = 1", "feed(127) = 2", "count(3) = 2");
        keeps("7 sign", ALL, all("feed(%s) = BAD", -1, 128, 129, "MAX", "MIN"));
        keeps("7 full", new String[][] {FULL}, "feed(0) = FULL", "feed(127) = FULL", "feed(59) = FULL");
        runs("7 the hundredth", "text(" + "x".repeat(99) + ") = 99", "feed(120) = 100", "feed(120) = FULL", "count(3) = 100", "town() = -10",
            "feed(120) = 1");
    }

    private static void town() {
        String most = "take 99 p=0;".repeat(7) + "take 99 p=0";
        keeps("8 an empty text", new String[][] {NEW}, "town() = -10");
        keeps("8 full: the text stays", new String[][] {FULL}, "town() = FULL");
        runs("8 the text is empty then", "text(due 7) = 5", "town() = 0", "count(3) = 0", "town() = -10", "told(0) = 7", "count(1) = 1");
        runs("8 the text is empty behind a fault", "text(due 7)", "town()", "text(due 8;)", "town() = -16", "count(3) = 0", "told(0) = 7", "count(1) = 1");
        runs("8 nothing is left of take clauses ahead of a fault", "person(0, 0, 0, 0)", "text(take 1 p=0;take 5 p=0;take 7 p=0;)", "town() = -43",
            "text(take 1 p=0)", "town() = 0", "of(0, 7) = 10");
        BirthTenth x = Calls.made("person(0, 0, 0, 0)");
        for (int i = 0; i < 4; i++) {
            Calls.run(check, "8 fault upon fault", x, "text(take 1 " + "p=1&".repeat(23) + ")", "town() = -109");
        }
        Calls.run(check, "8 behind fault upon fault", x, "text(take 1 p=0|" + "p=1&".repeat(20) + "p=1)", "town() = 0", "of(0, 7) = 10");
        runs("8 six", "text(due 0)", "town() = 0", "text(due 1)", "town() = 1", "text(due 2)", "town() = 2", "text(due 3)", "town() = 3",
            "text(due 4)", "town() = 4", "text(x)", "town() = -10", "text(due 5)", "town() = 5", "told(0) = 5", "text(due 6)", "town() = FULL",
            "told(0) = 5", "count(1) = 6", "count(3) = 5");
        runs("8 the number goes on behind undo", "image()", "text(due 1)", "town() = 0", "undo()", "told(0) = 10", "text(due 2)", "town() = 1");
        runs("8 ten clauses", "text(" + "due 1;".repeat(9) + "due 2)", "town() = 0", "told(0) = 2");
        runs("8 eleven clauses", "text(" + "due 1;".repeat(10) + "due 2)", "town() = -69");
        runs("8 ten clauses and a ;", "text(" + "due 1;".repeat(10) + ")", "town() = -69");
        runs("8 a hundred bytes", "person(0, 0, 0, 0)", "text(" + most + ";d)", "town() = -107", "text(" + most + ";due )", "town() = -110",
            "text(" + most + ";due5)", "town() = -109", "text(" + most.substring(12) + ";due 5;feast 04) = 98", "town() = 0");
        runs("8 a town of a hundred bytes", "person(0, 0, 0, 0)", "text(take 10 " + "p=0|".repeat(22) + "p<1) = 99", "town() = 0",
            "text(take 10 " + "p=0&".repeat(22) + "p<01) = 100", "town() = 1", "of(0, 7) = 100");
        runs("8 the smallest numbers", "person(0, 0, 0, 0)", "text(due 0;cost 0;feast 0;take 0 p=0)", "town() = 0", "told(0) = 0", "told(1) = 0",
            "told(2) = 0", "of(0, 7) = 0");
        runs("8 the largest numbers", "person(0, 0, 0, 0)", "text(due 99;cost 99;feast 99;take 99 p<99)", "town() = 0", "told(0) = 99",
            "told(1) = 99", "told(2) = 99", "of(0, 7) = 990");
        runs("8 0 ahead of a digit", "text(due 09;cost 00;feast 07)", "town() = 0", "told(0) = 9", "told(1) = 0", "told(2) = 7");
        runs("8 three digits", "text(due 100)", "town() = -16", "text(cost 100)", "town() = -17", "text(feast 100)", "town() = -18",
            "text(take 100 p=1)", "town() = -17", "text(take 1 p=100)", "town() = -21");
        runs("8 the last one's n", "text(due 1;cost 2;feast 3;due 4;cost 5;feast 6)", "town() = 0", "told(0) = 4", "told(1) = 5", "told(2) = 6",
            "text(cost 7)", "town() = 1", "told(0) = 10", "told(1) = 7", "told(2) = 99");
        runs("8 within 4", "text(take 1 !!!!p=1&!!!!p=1|!!!!p=1)", "town() = 0", "text(take 1 (((!p=1)))&(!(!p=1)))", "town() = 1",
            "text(take 1 !!!!!p=1)", "town() = -21", "text(take 1 !!!!(p=1))", "town() = -21", "text(take 1 ((((p=1&!p=1))))", "town() = -25",
            "text(take 1 ((((p=1|(p=1)))))", "town() = -25", "text(take 1 p=1&(((((p=1)))))", "town() = -25");
    }

    private static void told() {
        keeps("9 what", ALL, all("told(%s) = FAR_NONE", -1, 6, 7, 9, 22, 23, 29, 42, 43, "MAX", "MIN"));
        keeps("9 asked", new String[][] {SOME}, "told(0) = 20", "told(1) = 2", "told(2) = 7", "told(3) = 4", "told(4) = 0", "told(5) = 90",
            "told(10) = 0", "told(13) = 1", "told(15) = 2", "told(21) = 0", "told(30) = 0", "told(34) = 2", "told(36) = 1", "told(41) = 0");
        runs("9 all of seven", "person(0, 0, 11, 0)", "person(0, 0, 11, 0)", "person(0, 0, 11, 0)", "person(0, 0, 11, 0)", "person(0, 0, 11, 0)",
            "person(0, 0, 11, 0)", "person(0, 0, 11, 0)", "told(21) = 127", "told(10) = 0", "told(30) = 127", "told(41) = 0", "there(0, false)",
            "told(21) = 126", "there(6, false)", "told(21) = 62");
        runs("9 purses below 0", "text(take 0 p=0;cost 99)", "town()", "person(2, 0, 0, 1)", "person(2, 0, 0, 2)", "day()", "told(5) = -2079");
        runs("9 date and year go round", "days(11)", "told(3) = 11", "told(4) = 0", "day()", "told(3) = 0", "told(4) = 1");
    }

    private static void day() {
        runs("10 due of a hundred, cut", "text(take 9 p<9;due 1)", "town()", "person(0, 0, 0, 0)", "person(0, 0, 0, 0)", "day() = 0", "told(5) = 180");
        runs("10 1 of a hundred", "text(due 1)", "town()", "person(0, 0, 0, 5)", "person(0, 0, 1, 0)", "day() = 1", "of(0, 8) = 1", "of(1, 8) = 99");
        runs("10 due 0", "text(due 0)", "town()", "person(0, 0, 0, 0)", "person(0, 0, 1, 0)", "day() = 0", "of(0, 8) = 100", "of(1, 8) = 100");
        runs("10 due 99, cut", "text(take 1 p=0;due 99)", "town()", "person(0, 0, 3, 0)", "person(0, 0, 0, 3)", "day() = 9", "of(0, 8) = 1", "of(1, 8) = 9");
        runs("10 the most taken", "text(" + "take 99 p<9;".repeat(7) + "due 99)", "town() = 0", "person(0, 0, 3, 0)", "person(0, 0, 0, 3)",
            "day() = 6860", "of(0, 8) = 70", "of(1, 8) = 6860");
        runs("10 a penny for six: the first", "text(take 1 p=6)", "town()", "person(0, 0, 0, 1)", "person(0, 0, 0, 1)", "person(0, 0, 0, 1)",
            "person(0, 0, 0, 1)", "person(0, 0, 0, 1)", "person(0, 0, 0, 1)", "person(0, 0, 1, 0)", "day() = 1", "of(0, 8) = 1", "of(1, 8) = 0",
            "of(5, 8) = 0", "of(6, 8) = 9");
        runs("10 left over to the first that is there", "text(take 5 p=3)", "town()", "person(0, 0, 0, 1)", "person(0, 0, 0, 1)",
            "person(0, 0, 0, 1)", "person(0, 0, 1, 0)", "there(0, false)", "day() = 5", "of(0, 8) = 0", "of(1, 8) = 3", "of(2, 8) = 2", "of(3, 8) = 45");
        runs("10 nobody that is there is born on it", "person(0, 0, 0, 0)", "person(0, 0, 1, 0)", "there(0, false)", "day() = 0", "of(1, 8) = 100",
            "of(0, 8) = 0");
        runs("10 cost 0 and cost 99, put off by 11", "text(cost 0)", "town()", "text(cost 99)", "person(2, 0, 0, 1)", "image()", "day() = 10",
            "of(0, 8) = 100", "undo()", "town()", "day() = 10", "of(0, 8) = -989");
        runs("10 behind 11", "days(11)", "told(3) = 11", "day() = 0", "told(3) = 0", "told(4) = 1", "days(12)", "told(4) = 2");
        runs("10 one that sells twice in a year by set", "person(0, 0, 9, 0)", "day()", "set(0, 1, 1) = 0", "day()", "of(0, 8) = 200");
    }

    private static void by() {
        keeps("11 person", ALL, all("by(%s, 0, 0) = FAR_NONE", -1, 7, 8, "MAX", "MIN"));
        keeps("11 what", ALL, all("by(0, 0, %s) = FAR_NONE", -1, 2, 3, "MAX", "MIN"));
        keeps("11 n", FEW, all("by(0, %s, 0) = FAR_BAD", -1, 61, 62, "MAX", "MIN"));
        keeps("11 none ahead of bad", ALL, "by(7, 61, 0) = FAR_NONE", "by(0, 61, 2) = FAR_NONE", "by(0, -1, -1) = FAR_NONE");
        keeps("11 one beyond the last", new String[][] {SOME}, "by(3, 0, 0) = FAR_NONE");
        keeps("11 0 and 60 days", new String[][] {SOME}, "by(0, 0, 0) = 0", "by(0, 60, 0) = 200", "by(0, 60, 1) = 0", "by(1, 0, 1) = 0",
            "by(1, 60, 0) = 262", "by(1, 59, 0) = 262", "by(2, 0, 0) = 90", "by(2, 60, 0) = 90", "by(2, 60, 1) = 0");
        runs("11 0, 1, 59, 60 days", "person(0, 0, 11, 0)", "person(0, 0, 0, 11)", "by(0, 0, 0) = 0", "by(0, 1, 0) = 90", "by(0, 1, 1) = 0",
            "by(1, 0, 1) = 0", "by(1, 1, 1) = 10", "by(0, 59, 0) = 490", "by(0, 60, 0) = 500", "by(0, 59, 1) = 40", "by(0, 60, 1) = 50");
        runs("11 what came ahead of now is in the purse alone", "person(0, 0, 0, 5)", "person(0, 0, 1, 0)", "day() = 10", "by(0, 0, 0) = 10",
            "by(0, 0, 1) = 0", "by(0, 11, 1) = 0", "by(0, 12, 1) = 10", "by(0, 12, 0) = 120");
    }

    private static void years() {
        keeps("12 person", ALL, all("years(%s) = FAR_NONE", -1, 7, 8, "MAX", "MIN"));
        keeps("12 asked", new String[][] {SOME}, "years(0) = 40", "years(1) = 88", "years(2) = 0", "years(3) = FAR_NONE");
        runs("12 over the year's end", "person(0, 0, 3, 0)", "day()", "years(0) = 100", "days(10)", "years(0) = 100", "day()", "years(0) = 100");
        runs("12 below 0", "text(take 0 p=0;cost 99)", "town()", "person(2, 0, 0, 1)", "years(0) = -1089");
    }

    private static void birth() {
        keeps("13 person", ALL, all("birth(%s, 0) = FAR_NONE", -1, 7, 8, "MAX", "MIN"));
        keeps("13 what", ALL, all("birth(0, %s) = FAR_NONE", -1, 2, 3, "MAX", "MIN"));
        keeps("13 asked", new String[][] {SOME}, "birth(0, 0) = 4", "birth(0, 1) = 58", "birth(1, 0) = 6", "birth(1, 1) = 96",
            "birth(2, 0) = 0", "birth(2, 1) = 0", "birth(3, 0) = FAR_NONE");
        runs("13 the last day", "person(0, 0, 3, 5)", "person(0, 0, 3, 11)", "birth(0, 0) = 11", "birth(0, 1) = 110");
        runs("13 of several the first", "person(0, 0, 3, 5)", "birth(0, 0) = 0", "birth(0, 1) = 100", "person(0, 0, 3, 11)", "person(0, 0, 3, 10)",
            "birth(0, 0) = 10", "birth(0, 1) = 110");
        runs("13 below 0", "text(take 0 p=0;cost 99)", "town()", "person(3, 9, 0, 1)", "birth(0, 0) = 0", "birth(0, 1) = -891");
    }

    private static void plan() {
        keeps("14 person", ALL, all("plan(%s, 0) = FAR_NONE", -1, 7, 8, "MAX", "MIN"));
        keeps("14 what", ALL, all("plan(0, %s) = FAR_NONE", -1, 2, 3, "MAX", "MIN"));
        keeps("14 asked", new String[][] {SOME}, "plan(0, 0) = 0", "plan(0, 1) = 90", "plan(1, 0) = 4", "plan(1, 1) = 90", "plan(2, 0) = 0",
            "plan(2, 1) = 0", "plan(3, 0) = FAR_NONE");
        runs("14 the last day", "text(take 5 d=11)", "town()", "person(0, 0, 3, 0)", "plan(0, 0) = 11", "plan(0, 1) = 50");
        runs("14 of several the first", "text(take 5 d>9)", "town()", "person(0, 0, 3, 0)", "plan(0, 0) = 10", "plan(0, 1) = 50");
        runs("14 below 0", "text(take 0 p=0;cost 99)", "town()", "person(3, 1, 0, 1)", "plan(0, 0) = 0", "plan(0, 1) = -99");
    }

    private static void quiet() {
        keeps("15 nobody", new String[][] {NEW}, "quiet() = 4095");
        keeps("15 asked", new String[][] {SOME}, "quiet() = 4015");
        runs("15 the first and the last", "person(0, 0, 0, 0)", "quiet() = 4094", "set(0, 1, 11)", "quiet() = 2047", "there(0, false)", "quiet() = 4095");
        runs("15 seven", "person(0, 0, 0, 0)", "person(0, 0, 0, 1)", "person(0, 0, 0, 2)", "person(0, 0, 0, 3)", "person(0, 0, 0, 4)",
            "person(0, 0, 0, 5)", "person(0, 0, 0, 6)", "quiet() = 3968");
        runs("15 this year's day, gone by or not", "person(0, 0, 0, 0)", "days(5)", "quiet() = 4094");
    }

    private static void foundling() {
        keeps("16 what", ALL, all("foundling(0, %s) = FAR_NONE", -1, 2, 3, "MAX", "MIN"));
        keeps("16 plan", ALL, all("foundling(%s, 0) = FAR_BAD", -1, 12, 13, "MAX", "MIN"));
        keeps("16 none ahead of bad", ALL, "foundling(12, 2) = FAR_NONE", "foundling(-1, -1) = FAR_NONE");
        keeps("16 seven", new String[][] {FULL}, "foundling(0, 0) = -9", "foundling(11, 1) = -9");
        keeps("16 nobody", new String[][] {NEW}, "foundling(0, 0) = 0", "foundling(0, 1) = 100", "foundling(11, 0) = 0", "foundling(11, 1) = 100");
        keeps("16 asked", new String[][] {SOME}, "foundling(0, 0) = 4", "foundling(0, 1) = 108", "foundling(11, 0) = 4", "foundling(11, 1) = 58",
            "foundling(3, 0) = 4", "foundling(3, 1) = 90");
        runs("16 six, gone or not", "person(0, 0, 3, 11)", "person(0, 0, 3, 11)", "person(0, 0, 3, 11)", "person(0, 0, 3, 11)",
            "person(0, 0, 3, 11)", "person(0, 0, 3, 11)", "foundling(5, 0) = 11", "foundling(5, 1) = 160", "there(0, false)", "foundling(5, 1) = 150",
            "person(0, 0, 3, 11)", "there(1, false)", "foundling(5, 0) = -9");
    }

    private static void forged() {
        String most = "take 99 p<9;".repeat(6) + "take 31 p<9;due 60";
        keeps("17 pence", ALL, all("forged(%s) = BAD", -1, 10001, "MAX", "MIN"));
        keeps("17 nobody", new String[][] {NEW}, "forged(0) = -5", "forged(10000) = -5");
        keeps("17 asked", new String[][] {SOME}, "forged(58) = 4", "forged(40) = 0", "forged(96) = 106", "forged(10000) = -5", "forged(0) = 200",
            "forged(88) = 100");
        runs("17 the most pence", "text(" + most + ")", "town() = 0", "person(0, 0, 3, 5)", "person(0, 0, 4, 7)", "forged(10000) = 7", "forged(9999) = -5");
        runs("17 no pence", "text(take 0 p=0)", "town()", "person(0, 0, 3, 5)", "forged(0) = 0", "set(0, 0, 0)", "forged(0) = 1", "forged(1) = -5");
        runs("17 the last one, the last day", "text(take 5 p=0;take 1 p=6)", "town()", "person(0, 0, 4, 11)", "person(0, 0, 4, 5)",
            "person(0, 0, 4, 5)", "person(0, 0, 4, 5)", "person(0, 0, 4, 5)", "person(0, 0, 4, 5)", "person(0, 0, 4, 2)", "forged(15) = 611",
            "set(6, 0, 11)", "forged(15) = -5");
    }

    private static void change() {
        keeps("18 person", ALL, all("change(%s) = NONE", -1, 7, 8, "MAX", "MIN"));
        keeps("18 asked", new String[][] {SOME}, "change(0) = 1", "change(1) = 1", "change(2) = 0", "change(3) = NONE");
        runs("18 a penny more", "text(cost 1)", "town()", "person(2, 0, 5, 4)", "change(0) = 1", "set(0, 1, 5)", "change(0) = 0");
        runs("18 alike is no more", "person(0, 0, 5, 11)", "plan(0, 0) = 0", "change(0) = 0");
    }

    private static void rest() {
        keeps("19 what", ALL, all("rest(%s) = NONE", -1, 1, 9, 17, 18, "MAX", "MIN"));
        keeps("19 nobody", new String[][] {NEW}, "rest(0) = 0", "rest(10) = NONE");
        keeps("19 asked", new String[][] {SOME}, "rest(0) = 2", "rest(10) = 0", "rest(11) = 4", "rest(12) = 2", "rest(13) = NONE");
        runs("19 the seventh", "person(0, 0, 3, 5)", "person(0, 0, 3, 5)", "person(0, 0, 3, 5)", "person(0, 0, 3, 5)", "person(0, 0, 3, 5)",
            "person(0, 0, 3, 5)", "person(0, 0, 3, 9)", "rest(0) = 0", "rest(16) = 9");
        String[] nine = {"text(take 2 d=0;take 2 d=9)", "town()", "person(0, 0, 9, 0)", "person(0, 0, 9, 0)", "person(0, 0, 0, 1)",
            "person(0, 0, 9, 0)", "person(0, 0, 9, 1)"};
        keeps("19 nine changes", new String[][] {nine}, "rest(0) = -5", "rest(10) = -5", "rest(14) = -5", "rest(15) = NONE");
        String[] eight = {"text(take 6 d=0;take 5 d=2;take 5 d=1;due 20;cost 1)", "town()", "person(0, 6, 0, 7)", "person(0, 2, 0, 2)",
            "person(0, 9, 0, 2)", "person(0, 4, 0, 2)", "person(3, 3, 0, 0)"};
        keeps("19 eight changes, at rest in the sixth round", new String[][] {eight}, "rest(0) = 8", "rest(10) = 1", "rest(11) = 0",
            "rest(12) = 0", "rest(13) = 0", "rest(14) = 9", "rest(15) = NONE");
        runs("19 three that changed before are not counted", "text(take 2 d=0;take 2 d=9)", "town()", "person(0, 0, 9, 9)",
            "person(0, 0, 9, 0)", "person(0, 0, 0, 0)", "person(0, 0, 9, 0)", "person(0, 0, 9, 0)", "rest(0) = 6", "rest(10) = 0", "rest(14) = 9");
        runs("19 eighteen changes, at rest in the eighth round", "text(take 1 d<2;take 2 c=3;due 30;cost 2)", "town() = 0",
            "person(0, 1, 1, 6)", "person(0, 8, 0, 1)", "person(0, 1, 1, 11)", "person(0, 8, 1, 3)", "person(0, 7, 1, 3)", "person(0, 5, 1, 8)",
            "person(0, 1, 1, 11)", "rest(0) = -5", "rest(10) = -5", "rest(16) = -5", "rest(17) = NONE");
    }

    private static void reckoning() {
        keeps("20 n", ALL, all("reckoning(%s) = FAR_BAD", -1, 12, 13, "MAX", "MIN"));
        keeps("20 nobody", new String[][] {NEW}, "reckoning(0) = 0", "reckoning(11) = 0");
        keeps("20 asked", new String[][] {SOME}, "reckoning(0) = 0", "reckoning(1) = 0", "reckoning(11) = 48");
        runs("20 round", "text(take 1 d=11;take 2 d=0;take 4 d=10)", "town()", "person(0, 0, 5, 11)", "reckoning(1) = 10", "reckoning(11) = 30",
            "reckoning(2) = -10");
    }

    private static void high() {
        keeps("21 person", ALL, all("high(%s) = NONE", -1, 7, 8, "MAX", "MIN"));
        keeps("21 asked", new String[][] {SOME}, "high(0) = 0", "high(1) = 0", "high(2) = -5", "high(3) = NONE");
        runs("21 by 95", "text(take 18 d=5;take 2 d<99)", "town()", "person(0, 0, 3, 5)", "person(0, 0, 5, 5)", "high(0) = 95");
        runs("21 by 100, which is not looked at", "text(take 19 d=5;take 1 d<99)", "town()", "person(0, 0, 3, 5)", "person(0, 0, 5, 5)", "high(0) = -5");
        runs("21 by 5, whatever the town's", "text(due 99)", "town()", "person(0, 0, 3, 5)", "person(0, 0, 5, 5)", "high(0) = 5", "high(1) = -5");
    }

    private static void last() {
        keeps("22 person", ALL, all("last(%s) = FAR_NONE", -1, 7, 8, "MAX", "MIN"));
        keeps("22 asked", new String[][] {SOME}, "last(0) = 0", "last(1) = 0", "last(2) = 0", "last(3) = FAR_NONE");
        runs("22 alone", "person(0, 0, 3, 5)", "last(0) = 0");
        runs("22 more and less", "person(0, 0, 3, 5)", "person(0, 0, 5, 7)", "last(0) = 10", "last(1) = -10");
        runs("22 a cousin of the one still knows the day", "person(0, 0, 3, 5)", "person(2, 0, 8, 1)", "last(0) = -10", "set(1, 1, 3)", "last(0) = -10");
        runs("22 one that is fond of it sells by plan then", "person(0, 0, 3, 5)", "person(5, 0, 8, 1)", "last(0) = -12");
    }

    private static void odds() {
        keeps("23 person", ALL, all("odds(%s, 0, 0) = NO", -1, 7, 8, "MAX", "MIN"));
        keeps("23 day", ALL, all("odds(0, %s, 0) = NO", -1, 12, 13, "MAX", "MIN"));
        keeps("23 part", ALL, all("odds(0, 0, %s) = NO", -1, 2, 3, "MAX", "MIN"));
        keeps("23 asked", new String[][] {SOME}, "odds(0, 4, 0) = 1", "odds(0, 4, 1) = 12", "odds(0, 0, 0) = 1", "odds(0, 0, 1) = 1",
            "odds(0, 11, 0) = 1", "odds(0, 11, 1) = 1", "odds(2, 11, 0) = 1", "odds(2, 11, 1) = 1", "odds(3, 0, 0) = NO");
        runs("23 in lowest terms", "person(0, 0, 9, 10)", "person(0, 0, 11, 0)", "odds(0, 0, 1) = 12", "person(0, 0, 11, 1)", "odds(0, 0, 0) = 1",
            "odds(0, 0, 1) = 6", "person(0, 0, 11, 2)", "odds(0, 0, 0) = 1", "odds(0, 1, 1) = 4", "person(0, 0, 11, 3)", "odds(0, 0, 0) = 1",
            "odds(0, 0, 1) = 3", "person(0, 0, 11, 4)", "odds(0, 0, 0) = 5", "odds(0, 0, 1) = 12", "person(0, 0, 11, 5)", "odds(0, 0, 0) = 1",
            "odds(0, 0, 1) = 2", "odds(0, 6, 0) = 1", "odds(0, 6, 1) = 1");
    }

    private static void mean() {
        keeps("24 part", ALL, all("mean(%s) = NO", -1, 2, 3, "MAX", "MIN"));
        keeps("24 nobody", new String[][] {NEW}, "mean(0) = NO", "mean(1) = NO");
        keeps("24 asked", new String[][] {SOME}, "mean(0) = 64", "mean(1) = 1");
        runs("24 below 0, in lowest terms", "text(take 0 p=0)", "town()", "person(2, 0, 4, 0)", "mean(0) = -4", "mean(1) = 1", "person(2, 0, 0, 2)",
            "mean(0) = -3", "mean(1) = 1", "person(0, 0, 0, 0)", "mean(0) = -2", "mean(1) = 1", "person(0, 0, 0, 0)", "mean(0) = -3", "mean(1) = 2",
            "person(0, 0, 0, 0)", "mean(0) = -6", "mean(1) = 5", "person(0, 0, 0, 0)", "mean(0) = -1", "mean(1) = 1", "person(0, 0, 0, 0)",
            "mean(0) = -6", "mean(1) = 7", "there(0, false)", "mean(0) = -1", "mean(1) = 3", "there(1, false)", "mean(0) = 0", "mean(1) = 1");
        runs("24 all gone", "person(0, 0, 3, 5)", "there(0, false)", "mean(0) = NO", "mean(1) = NO", "there(0, true)", "mean(0) = 100");
    }

    private static void book() {
        runs("25 the smallest and the largest", "book(-9999) = 1", "book(9999) = 2", "book(0) = 3", "book(-10000) = 0", "count(2) = 0", "book(-10000) = 0");
        keeps("25 pence", ALL, all("book(%s) = BAD", -10001, 10000, 10001, "MAX", "MIN"));
        keeps("25 full", new String[][] {FULL}, "book(0) = FULL", "book(-9999) = FULL", "book(9999) = FULL");
        keeps("25 empty already", new String[][] {NEW}, "book(-10000) = 0");
        keepsBut("25 emptied, all else stays", SOME, "book(-10000) = 0", "book(-10000)");
        keepsBut("25 emptied when full", FULL, "book(-10000) = 0", "book(-10000)");
        runs("25 twelve", "book(1)", "book(1)", "book(1)", "book(1)", "book(1)", "book(1)", "book(1)", "book(1)", "book(1)", "book(1)", "book(1) = 11",
            "book(1) = 12", "book(1) = FULL", "count(2) = 12", "book(-10000) = 0", "book(1) = 1");
        runs("25 the smallest is kept", "person(0, 0, 3, 5)", "book(-9999)", "looked(99) = 0");
        runs("25 the largest is kept", "person(0, 0, 3, 5)", "book(9999)", "looked(99) = 0");
    }

    private static void looked() {
        keeps("26 n", ALL, all("looked(%s) = BAD", -1, 100, 101, "MAX", "MIN"));
        keeps("26 no person 0", new String[][] {NEW}, "looked(0) = STATE", "looked(99) = STATE");
        keeps("26 asked", new String[][] {SOME}, "looked(0) = 0", "looked(4) = 0", "looked(5) = 1", "looked(87) = 1", "looked(88) = -5", "looked(99) = -5");
        runs("26 no rows", "person(0, 0, 3, 5)", "looked(0) = -5", "looked(99) = -5");
        runs("26 the twelfth row", "person(0, 0, 3, 5)", "book(0)", "book(0)", "book(0)", "book(0)", "book(0)", "book(100)", "book(100)", "book(100)",
            "book(100)", "book(100)", "book(100)", "book(101)", "looked(0) = 11", "looked(1) = -5");
        runs("26 off by 99 and by 100", "person(0, 0, 3, 5)", "book(99)", "looked(98) = 0", "looked(99) = -5", "book(-10000)", "book(-99)",
            "looked(98) = 0", "looked(99) = -5", "book(100)", "looked(99) = 1");
        runs("26 a purse that goes down", "text(take 0 p=0;cost 99)", "town()", "person(2, 0, 0, 1)", "book(-1089)", "looked(0) = -5", "book(-1088)",
            "looked(0) = 1", "looked(1) = -5");
        runs("26 person 0 is gone", "person(0, 0, 3, 0)", "day()", "there(0, false)", "book(100)", "looked(0) = -5");
    }

    private static void judge() {
        keeps("27 tape", ALL, all("judge(%s, 0) = NONE", -1, 6, 7, "MAX", "MIN"));
        keeps("27 no row of longs", FEW, "judge(0, 0) = CAST", "judge(1, 0) = CAST", "judge(2, 0) = CAST", "judge(4, 0) = CAST", "judge(0, -1) = CAST",
            "judge(4, 60) = CAST");
        keeps("27 asked", new String[][] {SOME}, "judge(3, 0) = -5", "judge(3, 1) = 1", "judge(3, 2) = 0");
        keeps("27 nothing to look in", new String[][] {SOME}, "judge(5, 0) = 100", "judge(5, -1) = 100", "judge(3, -1) = 100", "judge(3, 3) = 100",
            "judge(3, 4) = 100", "judge(3, MAX) = 100", "judge(3, MIN) = 100");
        keeps("27 none to look at", new String[][] {NEW}, "judge(0, 0) = -5", "judge(5, MAX) = -5", "judge(5, -1) = -5");
        runs("27 seven", "person(0, 0, 3, 5)", "person(0, 0, 3, 5)", "person(0, 0, 3, 5)", "person(0, 0, 3, 5)", "person(0, 0, 3, 5)",
            "person(0, 0, 3, 5)", "person(0, 0, 3, 5)", "tape(0, 3, 60)", "judge(0, 0) = -5", "judge(0, 53) = -5", "judge(0, 54) = 106",
            "judge(0, 59) = 101", "judge(0, 60) = 100", "item(0, 59, 1)", "judge(0, 53) = 6", "judge(0, 54) = 5", "judge(0, 59) = 0",
            "tape(0, 3, 0)", "judge(0, 0) = 100", "tape(0, 3, 1)", "judge(0, 0) = 101");
        runs("27 all of a long", "person(0, 0, 3, 5)", "tape(5, 3, 1)", "item(5, 0, 4294967296)", "judge(5, 0) = 0", "item(5, 0, LONG_MIN)", "judge(5, 0) = 0");
        runs("27 a purse below 0", "text(take 0 p=0;cost 99)", "town()", "person(2, 0, 0, 1)", "day()", "tape(0, 3, 1)", "item(0, 0, -1089)", "judge(0, 0) = -5");
    }

    private static void image() {
        runs("28 how many", "image() = 0", "person(0, 0, 0, 0)", "image() = 1", "there(0, false)", "image() = 1");
        keepsBut("28 nothing else is changed", SOME, "image() = 3", "image()");
        keepsBut("28 of seven", FULL, "image() = 7", "image()");
        runs("28 the latest", "person(0, 0, 0, 0)", "image()", "set(0, 0, 1)", "image()", "set(0, 0, 2)", "undo() = 1", "of(0, 2) = 1");
    }

    private static void undo() {
        keeps("29 there is none", new String[][] {NEW}, "undo() = STATE");
        keepsBut("29 born", SOME, "set(0, 0, 9)", "undo()");
        keepsBut("29 plan", SOME, "set(1, 1, 9)", "undo()");
        keepsBut("29 there", SOME, "there(0, false)", "undo()");
        keepsBut("29 row", SOME, "row(1, 3, 0)", "undo()");
        keepsBut("29 days", SOME, "days(20)", "undo()");
        keepsBut("29 one more", SOME, "person(2, 2, 2, 2) = 3", "undo()");
        keepsBut("29 a row of the book", SOME, "book(3) = 4", "undo()");
        keepsBut("29 the book emptied", SOME, "book(-10000) = 0", "undo()");
        keepsBut("29 undone already", SOME, "undo() = 3", "undo()");
        runs("29 to nobody and no town", "image() = 0", "person(0, 0, 0, 0)", "text(due 33)", "town()", "day()", "book(4)", "undo() = 0", "count(0) = 0",
            "told(0) = 10", "told(3) = 0", "count(2) = 0", "of(0, 0) = FAR_NONE", "looked(0) = STATE");
        runs("29 what the book told", "person(0, 0, 3, 5)", "book(5)", "book(6)", "image()", "book(-10000)", "book(70)", "book(80)", "book(90)", "undo() = 1",
            "count(2) = 2", "looked(4) = 0", "looked(5) = 1", "looked(6) = -5");
        runs("29 which town holds", "text(due 1)", "town() = 0", "image()", "text(due 2)", "town() = 1", "undo()", "told(0) = 1", "count(1) = 2");
        runs("29 the text, the tapes and the trace stay", "person(0, 0, 0, 0)", "image()", "text(due)", "tape(0, 0, 1)", "item(0, 0, 5)", "act(0, 1, 0)",
            "undo() = 1", "count(3) = 3", "read(0, 0) = 5", "count(4) = 2", "trace(0) = 11");
        runs("29 over and over", "person(0, 0, 3, 0)", "image()", "days(13)", "undo() = 1", "of(0, 8) = 0", "told(4) = 0", "day()", "undo() = 1",
            "told(3) = 0", "of(0, 8) = 0");
    }

    private static void act() {
        String[] none = {"act(-1, 0, 5) = 0", "act(7, 0, 5) = 0", "act(MAX, 0, 5) = 0", "act(MIN, 0, 5) = 0", "act(0, -1, 5) = 0", "act(0, 3, 5) = 0",
            "act(0, MAX, 5) = 0", "act(0, MIN, 5) = 0"};
        for (String call : none) {
            BirthTenth x = Calls.made(FULL);
            Calls.run(check, "30 no such one, or act: no trace", x, "count(4) = 12", call, "count(4) = 0", "trace(0) = NONE");
            keepsBut("30 nothing but the trace", FULL, call, "act(6, 2, 5)");
            keeps("30 nobody", new String[][] {NEW}, call);
        }
        keepsBut("30 nothing but the trace", SOME, "act(0, 0, 7) = 7", "act(1, 2, 5)");
        keepsBut("30 nothing but the trace", SOME, "act(2, 1, 7) = -16", "act(1, 2, 5)");
        runs("30 x + i wraps", "person(0, 0, 0, 0)", "person(0, 0, 0, 0)", "act(0, 0, MAX) = MAX", "act(1, 0, MAX) = MIN", "act(1, 0, MIN) = -2147483647");
        runs("30 - v wraps", "person(0, 9, 0, 0)", "act(0, 1, MIN) = 2147483639", "act(0, 1, MAX) = 2147483638");
        runs("30 * 2 wraps", "person(0, 0, 0, 0)", "act(0, 2, 1073741823) = 2147483646", "act(0, 2, 1073741824) = MIN", "act(0, 2, MIN) = 0", "act(0, 2, MAX) = -2");
        runs("30 * 3 wraps", "person(2, 0, 0, 0)", "act(0, 0, 715827883) = -2147483647", "act(0, 0, MAX) = 2147483645");
        runs("30 - of the lowest", "person(4, 0, 0, 0)", "act(0, 0, MIN) = MIN", "act(0, 0, MAX) = -2147483647");
        runs("30 x + 1 wraps", "person(4, 0, 0, 0)", "act(0, 1, MAX) = -2147483642");
        runs("30 x - i wraps", "person(0, 0, 0, 0)", "person(5, 0, 0, 0)", "act(1, 2, MIN) = -4");
        runs("30 + gives(1) wraps", "person(3, 0, 0, 0)", "act(0, 2, MAX) = -1", "act(0, 2, 1073741824) = -2147483647");
        runs("30 one that is gone acts", "person(0, 0, 0, 0)", "there(0, false)", "act(0, 0, 5) = 5", "count(4) = 1");
    }

    private static void trace() {
        keeps("31 i", ALL, all("trace(%s) = NONE", -1, 12, 19, 20, 21, "MAX", "MIN"));
        keeps("31 none yet", new String[][] {NEW}, "trace(0) = NONE");
        keeps("31 the most bodies that can run", FEW, "trace(0) = 40", "trace(1) = 12", "trace(2) = 70", "trace(3) = 11", "trace(4) = 71",
            "trace(5) = 10", "trace(6) = 10", "trace(7) = 70", "trace(8) = 11", "trace(9) = 71", "trace(10) = 10", "trace(11) = 10");
        runs("31 of the latest act alone", "person(0, 0, 0, 0)", "act(0, 2, 0)", "trace(2) = 10", "act(0, 0, 0)", "trace(0) = 10", "trace(1) = NONE");
    }

    private static void taken() {
        keeps("32 k", ALL, all("taken(0, %s) = BAD", -1, 7, 8, "MAX", "MIN"));
        keeps("32 bad ahead of nothing", ALL, "taken(7, 7) = BAD", "taken(-1, -1) = BAD");
        keeps("32 no such one", ALL, all("taken(%s, 0) = NOTHING", -1, 7, 8, "MAX", "MIN"));
        keeps("32 nobody", new String[][] {NEW}, "taken(0, 0) = NOTHING", "taken(0, 6) = NOTHING");
        keeps("32 asked", new String[][] {SOME}, "taken(0, 0) = 0", "taken(0, 1) = CAST", "taken(1, 0) = 6", "taken(1, 3) = 6", "taken(1, 6) = 6",
            "taken(1, 1) = CAST", "taken(2, 4) = 4", "taken(2, 1) = 4", "taken(2, 5) = CAST", "taken(3, 0) = NOTHING");
        keeps("32 under that, not above it", new String[][] {FULL}, "taken(1, 4) = CAST", "taken(2, 5) = CAST", "taken(3, 6) = CAST", "taken(6, 3) = 6",
            "taken(6, 0) = 6", "taken(6, 2) = CAST");
    }

    private static void count() {
        keeps("33 what", ALL, all("count(%s) = BAD", -1, 5, 6, "MAX", "MIN"));
        keeps("33 empty", new String[][] {NEW}, all("count(%s) = 0", 0, 1, 2, 3, 4));
        keeps("33 some", new String[][] {SOME}, "count(0) = 3", "count(1) = 1", "count(2) = 3", "count(3) = 9", "count(4) = 12");
        keeps("33 full", new String[][] {FULL}, "count(0) = 7", "count(1) = 6", "count(2) = 12", "count(3) = 100", "count(4) = 12");
    }

    private static void tape() {
        keeps("34 tape", ALL, all("tape(%s, 0, 1) = NONE", -1, 6, 7, "MAX", "MIN"));
        keeps("34 sort", ALL, all("tape(0, %s, 1) = BAD", -2, 5, 6, "MAX", "MIN"));
        keeps("34 too many", ALL, all("tape(3, 3, %s) = BAD", 61, 62, "MAX"));
        keeps("34 size", ALL, all("tape(3, 3, %s) = SIZE", -1, -2, "MIN"));
        keeps("34 none ahead of bad ahead of size", ALL, "tape(6, 5, 61) = NONE", "tape(6, 0, -1) = NONE", "tape(6, -1, 0) = NONE",
            "tape(0, 5, -1) = BAD", "tape(0, -2, -1) = BAD");
        keepsBut("34 that tape alone", SOME, "tape(5, 4, 60) = 1", "tape(5, -1, 0)");
        keepsBut("34 nothing, n does not matter", SOME, "tape(0, -1, MAX) = 1", "tape(0, -1, MIN)");
        keeps("34 nothing already", new String[][] {SOME}, "tape(5, -1, MIN) = 1", "tape(5, -1, MAX) = 1", "tape(5, -1, 0) = 1");
        for (int sort = 0; sort < 5; sort++) {
            runs("34 the smallest and the largest", "tape(0, " + sort + ", 0) = 1", "read(0, 0) = NO", "item(0, 0, 1) = PLACE", "tape(0, " + sort + ", 60) = 1",
                "read(0, 0) = 0", "read(0, 59) = 0", "read(0, 60) = NO", "item(0, 59, 1) = 1", "item(0, 60, 1) = PLACE", "tape(0, " + sort + ", 60) = 1",
                "read(0, 59) = 0", "tape(0, " + sort + ", 59) = 1", "read(0, 59) = NO", "tape(0, -1, 60) = 1", "item(0, 0, 1) = NOTHING");
        }
    }

    private static void kept(int sort, String... pairs) {
        BirthTenth x = Calls.made("tape(5, " + sort + ", 60)");
        for (int i = 0; i < pairs.length; i += 2) {
            Calls.run(check, "35 sort " + sort, x, "item(5, 59, " + pairs[i] + ") = 1", "read(5, 59) = " + pairs[i + 1], "read(5, 58) = 0");
        }
    }

    private static void item() {
        kept(0, "127", "127", "128", "-128", "-128", "-128", "-129", "127", "255", "-1", "256", "0", "LONG_MAX", "-1", "LONG_MIN", "0");
        kept(1, "32767", "32767", "32768", "-32768", "-32768", "-32768", "-32769", "32767", "65535", "-1", "65536", "0", "LONG_MAX", "-1", "LONG_MIN", "0");
        kept(2, "MAX", "MAX", "2147483648", "MIN", "MIN", "MIN", "-2147483649", "MAX", "4294967295", "-1", "4294967296", "0", "LONG_MAX", "-1", "LONG_MIN", "0");
        kept(3, "LONG_MAX", "LONG_MAX", "LONG_MIN", "LONG_MIN", "-1", "-1", "4294967296", "4294967296", "0", "0");
        kept(4, "1", "1", "0", "0", "-1", "1", "2", "1", "256", "1", "4294967296", "1", "LONG_MIN", "1", "LONG_MAX", "1", "0", "0");
        keeps("35 tape", ALL, all("item(%s, 0, 1) = NONE", -1, 6, 7, "MAX", "MIN"));
        keeps("35 nothing", new String[][] {NEW}, all("item(%s, 0, 1) = NOTHING", 0, 1, 2, 3, 4, 5));
        keeps("35 nothing ahead of place", new String[][] {SOME}, "item(5, -1, 1) = NOTHING", "item(5, MAX, 1) = NOTHING", "item(6, -1, 1) = NONE");
        keeps("35 place", new String[][] {SOME}, all("item(0, %s, 1) = PLACE", -1, 3, 4, "MAX", "MIN"));
        keeps("35 place, full", new String[][] {FULL}, all("item(5, %s, 1) = PLACE", -1, 60, 61, "MAX", "MIN"));
        keepsBut("35 that item alone", SOME, "item(3, 2, 5) = 1", "item(3, 2, 90)");
    }

    private static void read() {
        keeps("36 tape", ALL, all("read(%s, 0) = NO", -1, 6, 7, "MAX", "MIN"));
        keeps("36 nothing there", new String[][] {NEW}, all("read(%s, 0) = NO", 0, 1, 2, 3, 4, 5));
        keeps("36 place", new String[][] {SOME}, all("read(0, %s) = NO", -1, 3, 4, "MAX", "MIN"));
        keeps("36 place, full", new String[][] {FULL}, all("read(5, %s) = NO", -1, 60, 61, "MAX", "MIN"));
        keeps("36 asked", new String[][] {SOME}, "read(0, 1) = 7", "read(1, 1) = 7", "read(2, 1) = 7", "read(3, 2) = 90", "read(4, 1) = 1", "read(0, 0) = 0",
            "read(0, 2) = 0");
        keeps("36 the last place", new String[][] {FULL}, "read(3, 59) = 9", "read(3, 0) = 0", "read(5, 59) = 0");
    }

    private static void shift() {
        keeps("37 tapes", ALL, all("shift(%s, 0, 0, 0, 1) = NONE", -1, 6, 7, "MAX", "MIN"));
        keeps("37 other tapes", ALL, all("shift(0, 0, %s, 0, 1) = NONE", -1, 6, 7, "MAX", "MIN"));
        keeps("37 nothing", new String[][] {SOME}, "shift(5, 0, 0, 0, 1) = NOTHING", "shift(0, 0, 5, 0, 1) = NOTHING", "shift(5, 0, 5, 0, 0) = NOTHING",
            "shift(0, -1, 5, 0, 1) = NOTHING", "shift(5, 0, 6, 0, 0) = NONE");
        keeps("37 nothing, nowhere", new String[][] {NEW}, "shift(0, 0, 0, 0, 0) = NOTHING", "shift(0, 0, 5, 0, 0) = NOTHING");
        keeps("37 of unlike sorts", FEW, "shift(0, 0, 1, 0, 1) = CAST", "shift(3, 0, 2, 0, 0) = CAST", "shift(0, -1, 4, 0, 1) = CAST", "shift(4, 0, 0, 0, 61) = CAST");
        keeps("37 below 0", FEW, "shift(0, 0, 0, 0, -1) = PLACE", "shift(0, -1, 0, 0, 1) = PLACE", "shift(0, 0, 0, -1, 1) = PLACE",
            "shift(0, MIN, 0, 0, 1) = PLACE", "shift(0, 0, 0, MIN, 1) = PLACE", "shift(0, 0, 0, 0, MIN) = PLACE", "shift(0, 1, 0, 1, -1) = PLACE");
        keeps("37 beyond the ends", new String[][] {SOME}, "shift(0, 0, 0, 0, 4) = PLACE", "shift(0, 1, 0, 0, 3) = PLACE", "shift(0, 0, 0, 1, 3) = PLACE",
            "shift(0, 3, 0, 0, 1) = PLACE", "shift(0, 0, 0, 3, 1) = PLACE", "shift(0, 4, 0, 0, 0) = PLACE", "shift(0, 0, 0, 4, 0) = PLACE");
        keeps("37 far beyond", FEW, "shift(0, MAX, 0, 0, 1) = PLACE", "shift(0, 0, 0, MAX, 1) = PLACE", "shift(0, 1, 0, 1, MAX) = PLACE",
            "shift(0, MAX, 0, MAX, MAX) = PLACE", "shift(0, MAX, 0, 0, 0) = PLACE", "shift(0, 0, 0, MAX, 0) = PLACE");
        keeps("37 beyond the ends, full", new String[][] {FULL}, "shift(3, 0, 5, 0, 61) = PLACE", "shift(3, 1, 5, 0, 60) = PLACE",
            "shift(3, 0, 5, 1, 60) = PLACE", "shift(3, 60, 5, 0, 1) = PLACE", "shift(3, 61, 5, 0, 0) = PLACE", "shift(3, 0, 5, 61, 0) = PLACE");
        keeps("37 none, and to where they are", FEW, "shift(0, 3, 0, 3, 0) = 0", "shift(0, 0, 0, 0, 3) = 3", "shift(0, 0, 0, 3, 0) = 0");
        keeps("37 none, at the ends", new String[][] {FULL}, "shift(3, 60, 5, 60, 0) = 0", "shift(3, 0, 3, 0, 60) = 60");
        runs("37 rows of none", "tape(0, 1, 0)", "tape(5, 1, 0)", "shift(0, 0, 5, 0, 0) = 0", "shift(0, 0, 5, 0, 1) = PLACE");
        runs("37 as they were before, up and down", "tape(0, 3, 4)", "item(0, 0, 1)", "item(0, 1, 2)", "item(0, 2, 3)", "item(0, 3, 4)",
            "shift(0, 0, 0, 1, 3) = 3", "read(0, 0) = 1", "read(0, 1) = 1", "read(0, 2) = 2", "read(0, 3) = 3", "shift(0, 1, 0, 0, 3) = 3",
            "read(0, 0) = 1", "read(0, 1) = 2", "read(0, 2) = 3", "read(0, 3) = 3");
        BirthTenth x = Calls.made(FULL);
        Calls.run(check, "37 all of it, to another", x, "item(3, 0, LONG_MIN)", "shift(3, 0, 5, 0, 60) = 60", "read(5, 0) = NO", "read(5, 59) = 9",
            "read(5, 58) = 0", "read(3, 0) = NO", "read(3, 59) = 9", "shift(5, 59, 3, 0, 1) = 1", "read(3, 0) = 9", "read(3, 1) = 0");
    }
}
