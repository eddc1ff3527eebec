import java.util.HashMap;
import java.util.HashSet;
import java.util.Map;
import java.util.Random;
import java.util.Set;

/**
 * Where the FAULT of a text lies, by the document's own words: the first byte with which no TOWN begins so. The grammar is
 * written out as rules; what may still come is kept as a set of all that could.
 */
public final class TextTest {
    private static final Check check = new Check();
    private static final Map<String, Set<String>> known = new HashMap<>();
    private static final int CLAUSES = 10, WITHIN = 4;
    /** What stands for a part that has rules: C n clauses yet to come, E, T and F within so many, X a TEST, N a number, D a digit. */
    private static final int PART = 1000, C = 1, E = 2, T = 3, F = 4, X = 5, N = 6, D = 7;

    private static String part(int which, int n) {
        return "" + (char) (PART + 100 * which + n);
    }

    private static String[] rules(char part) {
        int n = (part - PART) % 100;
        switch ((part - PART) / 100) {
            case C:
                String[] one = {"take " + part(N, 0) + " " + part(E, 0), "due " + part(N, 0), "cost " + part(N, 0), "feast " + part(N, 0)};
                String[] rules = new String[n > 1 ? 8 : 4];
                for (int i = 0; i < rules.length; i++) {
                    rules[i] = one[i % 4] + (i < 4 ? "" : ";" + part(C, n - 1));
                }
                return rules;
            case E: return new String[] {part(T, n), part(T, n) + "|" + part(E, n)};
            case T: return new String[] {part(F, n), part(F, n) + "&" + part(T, n)};
            case F:
                return n < WITHIN ? new String[] {"!" + part(F, n + 1), "(" + part(E, n + 1) + ")", part(X, 0)} : new String[] {part(X, 0)};
            case X:
                String[] tests = new String[18];
                for (int i = 0; i < tests.length; i++) {
                    tests[i] = "" + "pkdcyb".charAt(i / 3) + "<=>".charAt(i % 3) + part(N, 0);
                }
                return tests;
            case N: return new String[] {part(D, 0), part(D, 0) + part(D, 0)};
            default: return "0 1 2 3 4 5 6 7 8 9".split(" ");
        }
    }

    /** What may come behind a sign, of all that could come with it. */
    private static void behind(String could, char sign, Set<String> left) {
        if (could.isEmpty()) {
            return;
        }
        char first = could.charAt(0);
        if (first < PART) {
            if (first == sign) {
                left.add(could.substring(1));
            }
            return;
        }
        for (String rule : rules(first)) {
            behind(rule + could.substring(1), sign, left);
        }
    }

    /** All that may come behind the first n signs of a text. */
    private static Set<String> behind(String text, int n) {
        String beginning = text.substring(0, n);
        Set<String> left = known.get(beginning);
        if (left == null) {
            left = new HashSet<>();
            if (n == 0) {
                left.add(part(C, CLAUSES));
            } else {
                for (String could : behind(text, n - 1)) {
                    behind(could, text.charAt(n - 1), left);
                }
            }
            known.put(beginning, left);
        }
        return left;
    }

    /** The FAULT; -1 if the text is a TOWN. */
    private static int fault(String text) {
        for (int n = 1; n <= text.length(); n++) {
            if (behind(text, n).isEmpty()) {
                return n - 1;
            }
        }
        return behind(text, text.length()).contains("") ? -1 : text.length();
    }

    private static void compare(String text) {
        int fault = fault(text);
        check.due("8 " + text, Check.town(new BirthTenth(), text), fault < 0 ? 0 : -10 - fault);
    }

    /** Each beginning of a text, and each with another sign behind it. */
    private static void beginnings(String text) {
        for (int i = 0; i <= text.length(); i++) {
            String beginning = text.substring(0, i);
            compare(beginning);
            for (char sign = 0; sign < 128 && i < 100; sign++) {
                compare(beginning + sign);
            }
        }
    }

    private static void altered(Random random) {
        String signs = "takeducosf 0123456789()!&|<=>pkdcyb;";
        String[] texts = {
            "take 1 p=1;due 5", "take 12 (p<3|!(k=2&d>1))&c=0;cost 3", "feast 9;take 3 !!!!p=1&((((b=12))))",
            "due 1;due 2;due 3;due 4;due 5;due 6;due 7;due 8;due 9;cost 1", "take 3 !(!(!(y=1|y=2)&d=3)|(k=1))",
        };
        StringBuilder text = new StringBuilder(texts[random.nextInt(texts.length)]);
        for (int changes = 1 + random.nextInt(3); changes > 0; changes--) {
            int at = random.nextInt(text.length());
            char sign = signs.charAt(random.nextInt(signs.length()));
            switch (random.nextInt(4)) {
                case 0: text.insert(at, sign); break;
                case 1: text.setCharAt(at, sign); break;
                case 2: text.deleteCharAt(at); break;
                default: text.insert(at, text.substring(at, Math.min(text.length(), at + 1 + random.nextInt(6))));
            }
        }
        compare(text.substring(0, Math.min(100, text.length())));
    }

    public static void main(String[] args) {
        beginnings("take 12 (p=1&!(k<22|d>3)|c=4);due 50;cost 6;feast 7;take 1 !!!!y=1&((((b<9))))");
        beginnings("due 1;cost 2;feast 3;due 4;cost 5;feast 6;due 7;cost 8;feast 9;due 10;");
        beginnings("take 1 (!(!p=1)&!!!!k=1)|(!p=1)");
        Random random = new Random(1);
        for (int run = 0; run < 5000; run++) {
            altered(random);
        }
        check.end();
    }
}
