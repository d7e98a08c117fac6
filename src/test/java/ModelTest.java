/** All promises: runs of calls, made up by a fixed reckoning, answered alike by the class and by the model. */
public final class ModelTest {
    private static final Check check = new Check();
    private static final int RUNS = 120;
    private static final int CALLS = 512;

    private long seed;
    private final RunicSticks x = new RunicSticks();
    private final Model model = new Model();
    private int made = 0;

    private interface Answer {
        Object of();
    }

    private ModelTest(int run) {
        seed = 7919L * run + 17;
    }

    public static void main(String[] args) {
        for (int run = 0; run < RUNS; run++) {
            new ModelTest(run).run(run);
        }
        check.finish("ModelTest");
    }

    private void run(int run) {
        int ranks = 1 + below(4);
        while (made < CALLS) {
            String name = "run " + run + ", call " + made + ": ";
            if (below(100) < 12) {
                typeFeasts(name, ranks);
            } else {
                oneCall(name, below(24));
            }
        }
    }

    private int below(int bound) {
        seed = seed * 6364136223846793005L + 1442695040888963407L;
        return (int) ((seed >>> 33) % bound);
    }

    /** A number from the least to the most, now and then one beside them. */
    private int near(int least, int most) {
        if (below(40) == 0) {
            return below(2) == 0 ? least - 1 : most + 1;
        }
        return least + below(most - least + 1);
    }

    private int year() {
        switch (below(4)) {
            case 0:
                return near(0, 3);
            case 1:
                return near(990, 999);
            default:
                return near(0, 999);
        }
    }

    private int feast() {
        return near(0, Math.max(0, model.count(0) - 1));
    }

    private static String answered(Answer answer) {
        try {
            return String.valueOf(answer.of());
        } catch (RuntimeException e) {
            return "throws." + e.getClass().getSimpleName();
        }
    }

    /** One call on both, up to the last that is promised. */
    private void alike(String name, Answer ours, Answer due) {
        if (made < CALLS) {
            made++;
            check.same(name, answered(ours), answered(due));
        }
    }

    private void oneCall(String name, int kind) {
        int feast = feast();
        int year = year();
        int carver = near(0, 2);
        int small = near(0, 9);
        int slip = near(-5, 5);
        boolean flag = below(2) == 0;
        switch (kind) {
            case 0 -> alike(name + "forget", () -> x.forget(), () -> model.forget());
            case 1 -> alike(name + "rank", () -> x.rank(feast, small), () -> model.rank(feast, small));
            case 2, 3 -> alike(name + "teach", () -> x.teach(carver, slip), () -> model.teach(carver, slip));
            case 4, 5 -> alike(name + "carve", () -> x.carve(year, carver), () -> model.carve(year, carver));
            case 6 -> alike(name + "burn", () -> x.burn(carver), () -> model.burn(carver));
            case 7 -> {
                int years = near(50, 400);
                alike(name + "set", () -> x.set(years), () -> model.set(years));
            }
            case 8 -> {
                int code = near(33, 126);
                alike(name + "append", () -> x.append(code), () -> model.append(code));
            }
            case 9 -> alike(name + "proclaim", () -> x.proclaim(), () -> model.proclaim());
            case 10 -> alike(name + "undo", () -> x.undo(), () -> model.undo());
            default -> look(name, kind, feast, year, carver, small, flag);
        }
    }

    private void look(String name, int kind, int feast, int year, int carver, int small, boolean flag) {
        int day = near(0, 365);
        int years = near(1, 40);
        int what = near(0, 13);
        int few = near(0, 3);
        switch (kind) {
            case 11 -> alike(name + "day", () -> x.day(year, day, few), () -> model.day(year, day, few));
            case 12 -> alike(name + "feast", () -> x.feast(feast, few), () -> model.feast(feast, few));
            case 13, 14 -> alike(name + "when", () -> x.when(feast, year, carver, flag),
                () -> model.when(feast, year, carver, flag));
            case 15 -> alike(name + "settled", () -> x.settled(feast, year), () -> model.settled(feast, year));
            case 16 -> alike(name + "quarrels", () -> x.quarrels(year), () -> model.quarrels(year));
            case 17 -> alike(name + "stick", () -> x.stick(few, what), () -> model.stick(few, what));
            case 18 -> alike(name + "count", () -> x.count(small), () -> model.count(small));
            case 19 -> alike(name + "range", () -> x.range(feast, year, years, flag),
                () -> model.range(feast, year, years, flag));
            case 20 -> alike(name + "alike", () -> x.alike(year), () -> model.alike(year));
            case 21 -> alike(name + "peace", () -> x.peace(carver, year), () -> model.peace(carver, year));
            case 22 -> alike(name + "moved", () -> x.moved(year, carver), () -> model.moved(year, carver));
            default -> {
                alike(name + "freshShare", () -> x.freshShare(), () -> model.freshShare());
                alike(name + "digest", () -> x.digest(), () -> model.digest());
            }
        }
    }

    /** Types some feasts, now and then with a slip of the pen, and proclaims them. */
    private void typeFeasts(String name, int ranks) {
        StringBuilder text = new StringBuilder();
        int feasts = 1 + below(3);
        for (int i = 0; i < feasts; i++) {
            text.append(i > 0 ? ";" : "").append(madeFeast(ranks));
        }
        if (below(3) == 0) {
            text.insert(below(text.length() + 1), "dwma0123456789,;+-^x".charAt(below(20)));
        }
        if (below(4) > 0) {
            alike(name + "clearBuffer", () -> x.clearBuffer(), () -> model.clearBuffer());
        }
        for (int i = 0; i < text.length(); i++) {
            int code = text.charAt(i);
            alike(name + "append", () -> x.append(code), () -> model.append(code));
        }
        alike(name + "firstError", () -> x.firstError(), () -> model.firstError());
        alike(name + "proclaim", () -> x.proclaim(), () -> model.proclaim());
    }

    private String madeFeast(int ranks) {
        int day = below(3) == 0 ? 355 + below(12) : below(3) == 0 ? below(20) : below(370);
        int weekday = below(5) == 0 ? below(10) : below(7);
        String rank = below(2) == 0 ? "" : "^" + below(ranks);
        switch (below(5)) {
            case 0:
                return "d" + day + rank;
            case 1:
                return "w" + day + "," + weekday + rank;
            case 2:
                int other = below(3) == 0 ? below(10) : below(Math.max(1, model.count(0)));
                return "a" + other + (below(2) == 0 ? "+" : "-") + (below(2) == 0 ? below(4) : below(93)) + rank;
            default:
                return "m" + day + "," + weekday + rank;
        }
    }
}
