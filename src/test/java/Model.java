import java.util.ArrayList;
import java.util.List;
import java.util.function.IntUnaryOperator;

/** The document's days told once more, plainly: every what-if lets the days go on a whole copy. */
final class Model {
    static final class One {
        int number;
        int kind;
        int v;
        int born;
        int plan;
        int purse;
        int came;
        boolean here = true;
        int[] row = new int[4];

        One copy() {
            One other = new One();
            other.number = number;
            other.kind = kind;
            other.v = v;
            other.born = born;
            other.plan = plan;
            other.purse = purse;
            other.came = came;
            other.here = here;
            other.row = row.clone();
            return other;
        }
    }

    final List<One> people = new ArrayList<>();
    int date;
    int year;
    String town = "";
    int dueInstead = -1;

    Model copy() {
        Model other = new Model();
        for (One one : people) {
            other.people.add(one.copy());
        }
        other.date = date;
        other.year = year;
        other.town = town;
        other.dueInstead = dueInstead;
        return other;
    }

    void add(int kind, int v, int born, int plan) {
        One one = new One();
        one.number = people.size();
        one.kind = kind;
        one.v = v;
        one.born = born;
        one.plan = plan;
        people.add(one);
    }

    private int told(String word, int without) {
        int n = without;
        for (String clause : town.split(";")) {
            if (clause.startsWith(word + " ")) {
                n = Integer.parseInt(clause.substring(word.length() + 1));
            }
        }
        return n;
    }

    int due() {
        return dueInstead >= 0 ? dueInstead : told("due", 10);
    }

    int cost() {
        return told("cost", 1);
    }

    int feast() {
        return told("feast", 99);
    }

    private int bornHere(int day) {
        int n = 0;
        for (One one : people) {
            n += one.here && one.born == day ? 1 : 0;
        }
        return n;
    }

    int sells(One one) {
        One that = people.get(one.v % people.size());
        int day = one.plan;
        switch (one.kind) {
            case 1:
                while (day == that.born) {
                    day = (day + 1) % 12;
                }
                break;
            case 2:
                day = that.born;
                break;
            case 3:
                day = (one.plan + one.v) % 12;
                break;
            case 4:
                while (day == that.born || bornHere(day) >= 2) {
                    day = (day + 1) % 12;
                }
                break;
            case 5:
                day = that.here ? that.born : one.plan;
                break;
            case 6:
                day = one.row[year % 4];
                break;
            default:
        }
        return day == feast() ? (day + 1) % 12 : day;
    }

    int putOff(One one) {
        int days = 0;
        while ((one.plan + days) % 12 != sells(one)) {
            days++;
        }
        return days;
    }

    int takes(One one, int day) {
        int n = 0;
        boolean any = false;
        for (String clause : town.split(";")) {
            if (clause.startsWith("take ")) {
                any = true;
                String[] parts = clause.split(" ");
                n += holds(parts[2], one, day) ? Integer.parseInt(parts[1]) : 0;
            }
        }
        return any ? 10 * n : 100;
    }

    private boolean holds(String e, One one, int day) {
        for (char joint : new char[] {'|', '&'}) {
            int depth = 0;
            for (int i = 0; i < e.length(); i++) {
                char sign = e.charAt(i);
                depth += sign == '(' ? 1 : sign == ')' ? -1 : 0;
                if (sign == joint && depth == 0) {
                    boolean left = holds(e.substring(0, i), one, day);
                    boolean right = holds(e.substring(i + 1), one, day);
                    return joint == '|' ? left || right : left && right;
                }
            }
        }
        if (e.charAt(0) == '!') {
            return !holds(e.substring(1), one, day);
        }
        if (e.charAt(0) == '(') {
            return holds(e.substring(1, e.length() - 1), one, day);
        }
        int[] values = {one.number, one.kind, day, bornHere(day), year % 10, one.born};
        int is = values["pkdcyb".indexOf(e.charAt(0))];
        int number = Integer.parseInt(e.substring(2));
        return e.charAt(1) == '<' ? is < number : e.charAt(1) == '>' ? is > number : is == number;
    }

    int day() {
        int dues = 0;
        int heirs = bornHere(date);
        for (One one : people) {
            if (one.here && sells(one) == date) {
                one.purse += takes(one, date);
                one.purse -= cost() * putOff(one);
                if (heirs > 0) {
                    int pays = takes(one, date) * due() / 100;
                    one.purse -= pays;
                    dues += pays;
                }
            }
        }
        boolean isFirst = true;
        for (One one : people) {
            if (one.here && one.born == date) {
                int gets = dues / heirs + (isFirst ? dues - dues / heirs * heirs : 0);
                one.purse += gets;
                one.came += gets;
                isFirst = false;
            }
        }
        date++;
        if (date == 12) {
            date = 0;
            year++;
        }
        return dues;
    }

    One by(int i, int n) {
        Model then = copy();
        then.people.get(i).came = 0;
        for (int k = 0; k < n; k++) {
            then.day();
        }
        return then.people.get(i);
    }

    int years(int i) {
        return by(i, 12).purse - people.get(i).purse;
    }

    int allYears() {
        int sum = 0;
        for (One one : people) {
            sum += one.here ? years(one.number) : 0;
        }
        return sum;
    }

    int yearsIfBorn(int i, int day) {
        Model other = copy();
        other.people.get(i).born = day;
        return other.years(i);
    }

    int yearsByPlan(int i, int day) {
        Model other = copy();
        other.people.get(i).plan = day;
        return other.years(i);
    }

    static int best(IntUnaryOperator brings) {
        int best = 0;
        for (int day = 1; day < 12; day++) {
            best = brings.applyAsInt(day) > brings.applyAsInt(best) ? day : best;
        }
        return best;
    }

    int bestPlan(int i) {
        return best(day -> yearsByPlan(i, day));
    }

    boolean changes(int i) {
        return yearsByPlan(i, bestPlan(i)) > years(i);
    }

    int forged(int pence) {
        for (int i = 0; i < people.size(); i++) {
            for (int day = 0; day < 12; day++) {
                if (day != people.get(i).born && yearsIfBorn(i, day) == pence) {
                    return 100 * i + day;
                }
            }
        }
        return -5;
    }

    /** How many change (-5: more than 8 would); the plans are left as they are then. */
    int settle() {
        int changes = 0;
        int before = -1;
        while (changes != before && changes <= 8) {
            before = changes;
            for (One one : people) {
                if (one.here && changes(one.number)) {
                    one.plan = bestPlan(one.number);
                    changes++;
                }
            }
        }
        return changes <= 8 ? changes : -5;
    }

    int reckoning(int n) {
        Model other = copy();
        for (One one : other.people) {
            one.plan = (one.plan + n) % 12;
        }
        return other.allYears() - allYears();
    }

    int high(int i) {
        Model other = copy();
        for (other.dueInstead = 0; other.dueInstead <= 95; other.dueInstead += 5) {
            if (other.changes(i)) {
                return other.dueInstead;
            }
        }
        return -5;
    }

    int last(int i) {
        Model other = copy();
        other.people.get(i).here = false;
        int less = 0;
        for (One one : people) {
            if (one.number != i && one.here) {
                less += years(one.number) - other.years(one.number);
            }
        }
        return less;
    }
}
