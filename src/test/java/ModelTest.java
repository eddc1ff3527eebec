import java.util.Random;

/** Random people in random towns, by the program and by the model. */
public final class ModelTest {
    private static final Check check = new Check();

    private static String either(Random random, int within) {
        StringBuilder text = new StringBuilder(one(random, within));
        while (random.nextInt(3) == 0) {
            text.append(random.nextBoolean() ? '|' : '&').append(one(random, within));
        }
        return text.toString();
    }

    private static String one(Random random, int within) {
        int what = random.nextInt(within < 4 ? 6 : 4);
        if (what == 4) {
            return "!" + one(random, within + 1);
        }
        if (what == 5) {
            return "(" + either(random, within + 1) + ")";
        }
        return "" + "pkdcyb".charAt(random.nextInt(6)) + "<=>".charAt(random.nextInt(3)) + random.nextInt(random.nextBoolean() ? 4 : 12);
    }

    private static String town(Random random) {
        for (int tries = 0; tries < 1000; tries++) {
            StringBuilder text = new StringBuilder();
            for (int clauses = 1 + random.nextInt(7); clauses > 0; clauses--) {
                switch (random.nextInt(8)) {
                    case 0: text.append("due ").append(random.nextInt(100)); break;
                    case 1: text.append("cost ").append(random.nextInt(random.nextBoolean() ? 4 : 30)); break;
                    case 2: text.append("feast ").append(random.nextInt(14)); break;
                    default: text.append("take ").append(random.nextInt(100)).append(' ').append(either(random, 0));
                }
                text.append(clauses > 1 ? ";" : "");
            }
            if (text.length() <= 100) {
                return text.toString();
            }
        }
        return "due 15";
    }

    private static void compare(int run, BirthTenth x, Model model, Random random) {
        String at = "run " + run + " day " + model.date + "." + model.year + ": ";
        int[] selling = new int[12];
        int[] born = new int[12];
        int quiet = 4095;
        int heads = 0;
        for (Model.One one : model.people) {
            int i = one.number;
            String of = at + "of " + i + " ";
            int sells = model.sells(one);
            int[] want = {one.kind, one.v, one.born, one.plan, one.here ? 1 : 0, sells, model.putOff(one), model.takes(one, sells), one.purse};
            for (int what = 0; what < want.length; what++) {
                check.due(of + what, x.of(i, what), want[what]);
            }
            selling[sells] |= 1 << i;
            born[one.born] |= one.here ? 1 << i : 0;
            quiet &= one.here ? ~(1 << sells) : -1;
            heads += one.here ? 1 : 0;
            int n = random.nextInt(61);
            check.due(of + "by " + n, x.by(i, n, 0), model.by(i, n).purse);
            check.due(of + "by, came " + n, x.by(i, n, 1), model.by(i, n).came);
            check.due(of + "years", x.years(i), model.years(i));
            int best = Model.best(day -> model.yearsIfBorn(i, day));
            check.due(of + "birth", x.birth(i, 0), best);
            check.due(of + "birth 1", x.birth(i, 1), model.yearsIfBorn(i, best));
            check.due(of + "plan", x.plan(i, 0), model.bestPlan(i));
            check.due(of + "plan 1", x.plan(i, 1), model.yearsByPlan(i, model.bestPlan(i)));
            check.due(of + "change", x.change(i), model.changes(i) ? 1 : 0);
            check.due(of + "last", x.last(i), model.last(i));
            int day = random.nextInt(12);
            int asMuch = 0;
            for (int d = 0; d < 12; d++) {
                asMuch += model.yearsIfBorn(i, d) >= model.yearsIfBorn(i, day) ? 1 : 0;
            }
            check.due(of + "odds", x.odds(i, day, 0) * 12, x.odds(i, day, 1) * asMuch);
            int pence = model.yearsIfBorn(i, day);
            if (pence >= 0 && pence <= 10000) {
                check.due(at + "forged " + pence, x.forged(pence), model.forged(pence));
            }
        }
        for (int day = 0; day < 12; day++) {
            check.due(at + "told born " + day, x.told(10 + day), born[day]);
            check.due(at + "told sells " + day, x.told(30 + day), selling[day]);
        }
        check.due(at + "quiet", x.quiet(), quiet);
        check.due(at + "due", x.told(0), model.due());
        check.due(at + "cost", x.told(1), model.cost());
        check.due(at + "feast", x.told(2), model.feast());
        check.due(at + "date", x.told(3), model.date);
        check.due(at + "year", x.told(4), model.year);
        int n = random.nextInt(12);
        check.due(at + "reckoning " + n, x.reckoning(n), model.reckoning(n));
        if (heads > 0) {
            check.due(at + "mean", x.mean(0) * heads, x.mean(1) * model.allYears());
        }
        if (random.nextInt(4) == 0 && model.people.size() > 0) {
            int i = random.nextInt(model.people.size());
            check.due(at + "high " + i, x.high(i), model.high(i));
            Model settled = model.copy();
            int changes = settled.settle();
            check.due(at + "rest", x.rest(0), changes);
            for (Model.One one : settled.people) {
                check.due(at + "rest " + one.number, x.rest(10 + one.number), changes < 0 ? -5 : one.plan);
            }
        }
        if (model.people.size() < 7) {
            int plan = random.nextInt(12);
            Model more = model.copy();
            more.add(0, 0, 0, plan);
            int newest = more.people.size() - 1;
            int best = Model.best(day -> more.yearsIfBorn(newest, day));
            check.due(at + "foundling " + plan, x.foundling(plan, 0), best);
            check.due(at + "foundling 1 " + plan, x.foundling(plan, 1), more.yearsIfBorn(newest, best));
        }
    }

    private static void alter(BirthTenth x, Model model, Random random) {
        if (model.people.size() < 7 && random.nextInt(3) == 0) {
            int kind = random.nextInt(7);
            int v = random.nextInt(10);
            int born = random.nextInt(random.nextBoolean() ? 3 : 12);
            int plan = random.nextInt(12);
            x.person(kind, v, born, plan);
            model.add(kind, v, born, plan);
        }
        if (model.people.isEmpty()) {
            return;
        }
        int i = random.nextInt(model.people.size());
        Model.One one = model.people.get(i);
        int n = random.nextInt(12);
        switch (random.nextInt(5)) {
            case 0:
                check.due("set born", x.set(i, 0, n), one.born);
                one.born = n;
                break;
            case 1:
                check.due("set plan", x.set(i, 1, n), one.plan);
                one.plan = n;
                break;
            case 2:
                boolean is = random.nextInt(4) > 0;
                check.due("there", x.there(i, is), one.here ? 1 : 0);
                one.here = is;
                break;
            default:
                int part = random.nextInt(4);
                int was = x.row(i, part, n);
                if (one.kind == 6) {
                    check.due("row", was, one.row[part]);
                    one.row[part] = n;
                } else {
                    check.due("row", was, -3);
                }
        }
    }

    /** Towns in which odd pennies make PEOPLE change over and over; such are too rare to come by chance. */
    private static void settle(String town, int[][] people, int due) {
        BirthTenth x = new BirthTenth();
        Model model = new Model();
        Check.town(x, town);
        model.town = town;
        for (int[] one : people) {
            x.person(one[0], one[1], one[2], one[3]);
            model.add(one[0], one[1], one[2], one[3]);
        }
        int changes = model.settle();
        check.due("rest of the model in " + town, changes, due);
        check.due("rest in " + town, x.rest(0), changes);
        for (Model.One one : model.people) {
            check.due("rest " + one.number + " in " + town, x.rest(10 + one.number), changes < 0 ? -5 : one.plan);
        }
    }

    private static void settleOverAndOver() {
        settle("take 5 d<2;take 3 d<2;take 7 d=4;due 17;cost 0",
            new int[][] {{5, 1, 0, 9}, {0, 9, 1, 7}, {0, 7, 1, 4}, {3, 4, 1, 2}, {0, 1, 0, 2}, {0, 4, 1, 9}}, 8);
        settle("take 5 d<2;take 5 d<0;due 3;cost 1",
            new int[][] {{0, 8, 0, 8}, {0, 6, 1, 1}, {0, 0, 1, 1}, {0, 2, 0, 1}, {0, 4, 0, 1}, {0, 4, 1, 11}}, 8);
        settle("take 8 d<3;due 2;cost 2", new int[][] {{0, 5, 1, 11}, {0, 0, 1, 6}, {0, 0, 0, 4}, {0, 6, 0, 1}, {0, 5, 0, 0}}, 8);
        settle("take 9 d<2;take 5 d=2;take 6 d=4;due 4;cost 0",
            new int[][] {{0, 2, 0, 11}, {0, 7, 1, 6}, {0, 6, 1, 1}, {0, 4, 1, 6}, {0, 3, 1, 5}, {0, 8, 1, 10}}, -5);
        settle("take 1 d<3;due 27;cost 1",
            new int[][] {{3, 2, 2, 10}, {0, 7, 2, 0}, {2, 1, 0, 6}, {0, 4, 1, 10}, {0, 7, 2, 10}, {0, 1, 2, 1}, {0, 0, 2, 2}}, -5);
        settle("take 2 d<4;take 8 d=3;take 6 d=1;due 26;cost 2",
            new int[][] {{0, 3, 3, 3}, {0, 2, 0, 0}, {0, 3, 3, 1}, {5, 6, 0, 1}, {0, 6, 3, 4}, {0, 0, 3, 2}, {0, 6, 0, 5}}, -5);
    }

    public static void main(String[] args) {
        settleOverAndOver();
        for (int run = 0; run < 60; run++) {
            Random random = new Random(run);
            BirthTenth x = new BirthTenth();
            Model model = new Model();
            Model image = null;
            for (int people = random.nextInt(8); people > 0; people--) {
                int kind = random.nextInt(7);
                int v = random.nextInt(10);
                int born = random.nextInt(random.nextBoolean() ? 3 : 12);
                int plan = random.nextInt(12);
                x.person(kind, v, born, plan);
                model.add(kind, v, born, plan);
            }
            for (int round = 0; round < 8; round++) {
                if (round < 6 && random.nextBoolean()) {
                    model.town = town(random);
                    check.due("town " + model.town, Check.town(x, model.town), x.count(1) - 1);
                }
                alter(x, model, random);
                compare(run, x, model, random);
                for (int days = random.nextInt(random.nextBoolean() ? 3 : 40); days > 0; days--) {
                    check.due("day " + model.date, x.day(), model.day());
                }
                int what = random.nextInt(5);
                if (what == 0) {
                    check.due("image", x.image(), model.people.size());
                    image = model.copy();
                } else if (what == 1 && image != null) {
                    check.due("undo", x.undo(), image.people.size());
                    model = image.copy();
                }
            }
        }
        check.end();
    }
}
