import java.util.Random;

/** Any arguments in any state: no call throws, and what is asked or refused changes nothing. */
public final class AskedTest {
    private static final Check check = new Check();
    private static final int[] EDGES = {
        Integer.MIN_VALUE, Integer.MIN_VALUE + 1, -10001, -10000, -9999, -2, -1, 0, 1, 2, 3, 4, 5, 6, 7, 9, 10, 11, 12, 13, 16, 17,
        20, 21, 22, 30, 41, 42, 59, 60, 61, 99, 100, 127, 128, 9999, 10000, 10001, Integer.MAX_VALUE - 1, Integer.MAX_VALUE,
    };

    private static int any(Random random) {
        return random.nextBoolean() ? random.nextInt(8) : EDGES[random.nextInt(EDGES.length)];
    }

    private static long asked(BirthTenth x, Random random) {
        int a = any(random);
        int b = any(random);
        int c = any(random);
        switch (random.nextInt(22)) {
            case 0: return x.of(a, b);
            case 1: return x.told(a);
            case 2: return x.by(a, b, c);
            case 3: return x.years(a);
            case 4: return x.birth(a, b);
            case 5: return x.plan(a, b);
            case 6: return x.quiet();
            case 7: return x.foundling(a, b);
            case 8: return x.forged(a);
            case 9: return x.change(a);
            case 10: return x.rest(a);
            case 11: return x.reckoning(a);
            case 12: return x.high(a);
            case 13: return x.last(a);
            case 14: return x.odds(a, b, c);
            case 15: return x.mean(a);
            case 16: return x.looked(a);
            case 17: return x.judge(a, b);
            case 18: return x.trace(a);
            case 19: return x.taken(a, b);
            case 20: return x.count(a);
            default: return x.read(a, b);
        }
    }

    private static long changed(BirthTenth x, Random random) {
        int a = any(random);
        int b = any(random);
        int c = any(random);
        switch (random.nextInt(16)) {
            case 0: return x.person(random.nextInt(9) - 1, random.nextInt(12) - 1, random.nextInt(14) - 1, random.nextInt(14) - 1);
            case 1: return x.set(a, b, c);
            case 2: return x.there(a, random.nextBoolean());
            case 3: return x.row(a, b, c);
            case 4: return x.feed(a);
            case 5: return x.feed("takeducosf 0123456789()!&|<=>pkdcyb;".charAt(random.nextInt(36)));
            case 6: return x.town();
            case 7: return Check.town(x, "take 9 !(p=1&b>2)|c=1;due 30");
            case 8: return x.day();
            case 9: return x.book(a);
            case 10: return x.image();
            case 11: return x.undo();
            case 12: return x.act(a, b, c);
            case 13: return x.tape(a, b, c);
            case 14: return x.item(a, b, random.nextLong());
            default: return x.shift(a, b, c, any(random), any(random));
        }
    }

    /** All that can be asked plainly, in one number. */
    private static long print(BirthTenth x) {
        long sum = 0;
        for (int i = 0; i < 42; i++) {
            sum = 31 * sum + x.told(i);
            sum = 31 * sum + x.count(i % 5);
            sum = 31 * sum + x.trace(i);
            sum = 31 * sum + x.looked(i);
        }
        for (int i = 0; i < 7; i++) {
            for (int what = 0; what < 9; what++) {
                sum = 31 * sum + x.of(i, what);
            }
            sum = 31 * sum + x.by(i, 60, 0);
        }
        for (int tape = 0; tape < 6; tape++) {
            sum = 31 * sum + x.judge(tape, 0);
            for (int i = 0; i < 60; i++) {
                sum = 31 * sum + x.read(tape, i);
            }
        }
        return sum;
    }

    private static boolean isRefused(long answer) {
        return answer == -1 || answer == -2 || answer == -3 || answer == -4 || answer <= -11 && answer >= -14;
    }

    public static void main(String[] args) {
        for (int run = 0; run < 60; run++) {
            Random random = new Random(run);
            BirthTenth x = new BirthTenth();
            for (int call = 0; call < 400; call++) {
                long before = print(x);
                asked(x, random);
                check.due("run " + run + " call " + call + " asked", print(x), before);
                int length = x.count(3);
                int ran = x.count(4);
                long answer = changed(x, random);
                // A text that is no town is empty then, and an act answers any number, so these may differ.
                if (isRefused(answer) && x.count(3) == length && x.count(4) == ran && ran == 0) {
                    check.due("run " + run + " call " + call + " refused", print(x), before);
                }
            }
        }
        check.end();
    }
}
