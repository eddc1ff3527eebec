import java.util.Random;

/**
 * Any arguments in any state: nothing throws, and what is asked or refused changes nothing. Of two objects one is asked
 * all; the other gets those calls alone that change something. They are alike at the end.
 */
public final class AskedTest {
    private static final Check check = new Check();
    private static final int[] EDGES = {
        Integer.MIN_VALUE, Integer.MIN_VALUE + 1, -10001, -10000, -9999, -2, -1, 0, 1, 2, 3, 4, 5, 6, 7, 9, 10, 11, 12, 13, 16, 17,
        20, 21, 22, 30, 41, 42, 59, 60, 61, 99, 100, 127, 128, 9999, 10000, 10001, Integer.MAX_VALUE - 1, Integer.MAX_VALUE,
    };
    private static final int STEPS = 200;

    private static int any(Random random) {
        return random.nextBoolean() ? random.nextInt(8) : EDGES[random.nextInt(EDGES.length)];
    }

    private static String asked(Random random) {
        int a = any(random);
        int b = any(random);
        int c = any(random);
        String one = "(" + a + ")";
        String two = "(" + a + ", " + b + ")";
        String three = "(" + a + ", " + b + ", " + c + ")";
        String[] calls = {
            "of" + two, "told" + one, "by" + three, "years" + one, "birth" + two, "plan" + two, "quiet()", "foundling" + two, "forged" + one,
            "change" + one, "rest" + one, "reckoning" + one, "high" + one, "last" + one, "odds" + three, "mean" + one, "looked" + one,
            "judge" + two, "trace" + one, "taken" + two, "count" + one, "read" + two,
        };
        return calls[random.nextInt(calls.length)];
    }

    private static String changing(Random random) {
        int a = any(random);
        int b = any(random);
        int c = any(random);
        String three = "(" + a + ", " + b + ", " + c + ")";
        switch (random.nextInt(17)) {
            case 0:
                return "person(" + (random.nextInt(9) - 1) + ", " + (random.nextInt(12) - 1) + ", " + (random.nextInt(14) - 1) + ", "
                    + (random.nextInt(14) - 1) + ")";
            case 1: return "set" + three;
            case 2: return "set(" + random.nextInt(4) + ", " + random.nextInt(2) + ", " + random.nextInt(12) + ")";
            case 3: return "there(" + a + ", " + random.nextBoolean() + ")";
            case 4: return "row" + three;
            case 5: return "feed(" + a + ")";
            case 6: return "text(take 9 !(p=1&b>2)|c=1;due 30)";
            case 7: return "town()";
            case 8: return "day()";
            case 9: return "book(" + a + ")";
            case 10: return "image()";
            case 11: return "undo()";
            case 12: return "act" + three;
            case 13: return "tape" + three;
            case 14: return "tape(" + random.nextInt(6) + ", " + random.nextInt(5) + ", " + random.nextInt(9) + ")";
            case 15: return "item(" + a + ", " + b + ", " + random.nextLong() + ")";
            default: return "shift" + three.replace(")", ", " + any(random) + ", " + any(random) + ")");
        }
    }

    /** town() with a fault empties the text, an act answers any number, and of a text some signs may find room. */
    private static boolean isRefused(String call, long answer) {
        if (call.startsWith("act") || call.startsWith("text")) {
            return false;
        }
        return call.equals("town()") ? answer == BirthTenth.FULL : answer < 0;
    }

    private static void compare(int run, int part) {
        Random random = new Random(run);
        BirthTenth x = new BirthTenth();
        BirthTenth y = new BirthTenth();
        int calls = 0;
        for (int step = 0; step < STEPS && calls < 250; step++) {
            String asked = asked(random);
            Calls.ask(x, asked);
            String call = changing(random);
            long answer = Calls.ask(x, call);
            if (!isRefused(call, answer)) {
                check.due("run " + run + " step " + step + " " + call, Calls.ask(y, call), answer);
            }
            calls += call.startsWith("text") ? 31 : 2;
        }
        boolean alike = Probe.told(x, part).equals(Probe.told(y, part));
        check.due("run " + run + ": what was asked or refused changed what part " + part + " tells", alike ? 0 : 1, 0);
    }

    public static void main(String[] args) {
        for (int run = 0; run < 400; run++) {
            for (int part = 0; part < Probe.PARTS; part++) {
                compare(run, part);
            }
        }
        check.end();
    }
}
