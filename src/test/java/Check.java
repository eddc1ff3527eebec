import java.util.HashSet;
import java.util.Set;

/** Counts answers that are not the ones that are due, and tells each. */
final class Check {
    private int wrong;
    private int asked;
    private final Set<String> promises = new HashSet<>();

    void due(String call, long got, long want) {
        asked++;
        promises.add(call.substring(0, Math.max(0, call.indexOf(' '))));
        if (got != want) {
            wrong++;
            System.out.println(call + " answered " + got + ", due is " + want);
        }
    }

    /** Whether an answer has been looked at whose call is told with that promise's number ahead. */
    boolean has(int promise) {
        return promises.contains(String.valueOf(promise));
    }

    /** Ends the program with exit code 1 if an answer was wrong. */
    void end() {
        System.out.println(wrong == 0 ? "all " + asked + " answers are as due" : wrong + " answers are not as due");
        if (wrong != 0) {
            System.exit(1);
        }
    }

    /** Feeds a text and makes a town of it: what town() answers. */
    static int town(BirthTenth x, String text) {
        for (int i = 0; i < text.length(); i++) {
            x.feed(text.charAt(i));
        }
        return x.town();
    }
}
