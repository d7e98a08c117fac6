/** Promises 20 to 25: range, alike, peace, moved, freshShare, digest. */
public final class WouldBeTest {
    private static final Check check = new Check();

    public static void main(String[] args) {
        range();
        rangeRefuses();
        alike();
        peace();
        moved();
        freshShare();
        digest();
        looksChangeNothing();
        check.finish("WouldBeTest");
    }

    private static void rangeIs(RunicSticks x, int from, int years, int earliest, int latest) {
        String name = " of " + years + " from " + from;
        check.same("earliest" + name, x.range(0, from, years, false), earliest);
        check.same("latest" + name, x.range(0, from, years, true), latest);
    }

    private static void range() {
        // the weekdays of the day 0: 0, 2, 3, 4, 5, 0
        RunicSticks weekday = Check.calendar("w0,0");
        rangeIs(weekday, 0, 1, 0, 0);
        rangeIs(weekday, 1, 1, 5, 5);
        rangeIs(weekday, 0, 2, 0, 5);
        rangeIs(weekday, 1, 4, 2, 5);
        rangeIs(weekday, 2, 3, 2, 4);
        rangeIs(weekday, 0, 40, 0, 6);
        rangeIs(weekday, 999, 40, 4, 4);
        RunicSticks leap = Check.calendar("d365");
        rangeIs(leap, 1, 3, -1, -1);
        rangeIs(leap, 1, 4, 365, 365);
        rangeIs(leap, 997, 40, -1, -1);
        // two of three carvers tell 19, and in the second calendar none
        RunicSticks settled = Check.calendar("m0,5", 0, -5, -5);
        rangeIs(settled, 0, 1, 19, 19);
        rangeIs(Check.calendar("m363,0", 0, 1, 1), 0, 1, -1, -1);
    }

    private static void rangeRefuses() {
        RunicSticks x = Check.calendar("d1");
        check.refuses("range 1", x, IndexOutOfBoundsException.class, () -> x.range(1, 0, 1, true));
        check.refuses("range -1", x, IndexOutOfBoundsException.class, () -> x.range(-1, -1, 0, true));
        int[][] wrong = {{-1, 1}, {1000, 1}, {0, 0}, {0, 41}, {0, -1}, {999, Integer.MAX_VALUE}, {Integer.MIN_VALUE, 40}};
        for (int[] w : wrong) {
            check.refuses("range", x, IllegalArgumentException.class, () -> x.range(0, w[0], w[1], false));
        }
    }

    private static void alike() {
        RunicSticks bare = new RunicSticks();
        check.same("alike, a leap year", bare.alike(0), 28);
        check.same("alike", bare.alike(1), 7);
        check.same("alike", bare.alike(2), 13);
        check.same("the last year that has one", bare.alike(993), 999);
        check.same("none up to 999", bare.alike(994), -1);
        check.same("none up to 999", bare.alike(972), -1);
        check.same("the last one", bare.alike(999), -1);
        for (int year = 0; year < 200; year += 7) {
            RunicSticks moon = Check.calendar("m0,0");
            check.same("alike " + year, moon.alike(year), slowAlike(moon, year));
        }
        // 411 is like 310, and no year between them, but it is 101 years later
        RunicSticks far = Check.calendar("m31,0");
        far.set(100);
        check.same("the same notch", far.settled(0, 411), far.settled(0, 310));
        check.same("the same weekday", far.day(411, 0, 0), far.day(310, 0, 0));
        check.same("too far", far.alike(310), -1);
        check.refuses("alike(-1)", bare, IllegalArgumentException.class, () -> bare.alike(-1));
        check.refuses("alike(1000)", bare, IllegalArgumentException.class, () -> bare.alike(1000));
    }

    private static int slowAlike(RunicSticks x, int year) {
        for (int later = year + 1; later <= Math.min(999, year + 100); later++) {
            boolean sameLength = (later % 4 == 0) == (year % 4 == 0);
            boolean sameWeekday = x.day(later, 0, 0) == x.day(year, 0, 0);
            if (sameLength && sameWeekday && x.settled(0, later) == x.settled(0, year)) {
                return later;
            }
        }
        return -1;
    }

    private static void peaceIs(String text, int slip0, int slip1, int slip2, int carver, int due) {
        RunicSticks x = Check.calendar(text, slip0, slip1, slip2);
        check.same("peace of " + text, x.peace(carver, 0), due);
        check.same("peace teaches nothing", x.count(2 + carver), 5 + new int[] {slip0, slip1, slip2}[carver]);
    }

    private static void peace() {
        // m0,5 in the year 0: from -5 to -3 it tells 19, from -2 to 4 12, with 5 5
        peaceIs("m0,5", 0, 4, 0, 1, 5);
        peaceIs("m0,5", -5, 0, -5, 1, 2);
        peaceIs("m0,5", 5, 0, 5, 1, 10);
        peaceIs("m0,5", 0, -5, -5, 0, 2);
        peaceIs("m0,5", -5, -5, 0, 2, 2);
        peaceIs("m0,5", -5, 3, 5, 1, 5);
        // m0,6 tells 13 from -3 to 3; then d13 gives way, unlike by the carvers 0 and 2: -4 and 4 quarrel least
        peaceIs("m0,6^1;d13", -5, 0, 5, 1, 1);
        check.same("peace without feasts", new RunicSticks().peace(2, 999), 5);
        RunicSticks x = Check.calendar("d1");
        int[][] wrong = {{-1, 0}, {3, 0}, {0, -1}, {0, 1000}, {Integer.MAX_VALUE, Integer.MIN_VALUE}};
        for (int[] w : wrong) {
            check.refuses("peace", x, IllegalArgumentException.class, () -> x.peace(w[0], w[1]));
        }
    }

    private static void moved() {
        RunicSticks x = Check.calendar("d365;d365;d7;d7;d7;m0,5;d12", 0, -5, 0);
        check.same("moved, one has no notch", x.moved(0, 0), 3);
        check.same("moved, by another slip", x.moved(0, 1), 2);
        check.same("moved, no proper days", x.moved(1, 0), 2);
        check.same("moved without feasts", new RunicSticks().moved(0, 0), 0);
        int[][] wrong = {{-1, 0}, {1000, 0}, {0, -1}, {0, 3}};
        for (int[] w : wrong) {
            check.refuses("moved", x, IllegalArgumentException.class, () -> x.moved(w[0], w[1]));
        }
    }

    private static void freshShare() {
        RunicSticks x = new RunicSticks();
        x.carve(0, 0);
        check.same("a stick without feasts", x.freshShare(), 1.0);
        Check.proclaim(x, "d1;d2;d3");
        x.carve(0, 0);
        check.same("all are fresh", x.freshShare(), 1.0);
        x.forget();
        check.same("two of three", x.freshShare(), 2.0 / 3.0);
        x.carve(0, 0);
        check.same("four of five", x.freshShare(), 4.0 / 5.0);
        x.forget();
        x.forget();
        check.same("none", x.freshShare(), 0.0);
    }

    /** The digest as the document tells it, by the other calls; the buffer's text is known to the test. */
    private static long digestOf(RunicSticks x, String buffer) {
        java.util.ArrayList<Long> values = new java.util.ArrayList<>();
        for (int what = 0; what < 8; what++) {
            values.add((long) x.count(what));
        }
        int[] years = {0, 100, 777};
        for (int feast = 0; feast < x.count(0); feast++) {
            for (int what = 0; what < 4; what++) {
                values.add((long) x.feast(feast, what));
            }
            for (int year : years) {
                for (int carver = 0; carver < 3; carver++) {
                    values.add((long) x.when(feast, year, carver, true));
                    values.add((long) x.when(feast, year, carver, false));
                }
                values.add((long) x.settled(feast, year));
            }
        }
        for (int year : years) {
            values.add((long) x.quarrels(year));
            for (int carver = 0; carver < 3; carver++) {
                values.add((long) x.moved(year, carver));
            }
        }
        for (int stick = 0; stick < x.count(1); stick++) {
            for (int what = 0; what < 14; what++) {
                values.add((long) x.stick(stick, what));
            }
        }
        values.add((long) x.alike(20));
        values.add((long) x.peace(1, 100));
        if (x.count(0) > 0) {
            values.add((long) x.range(0, 50, 20, false));
            values.add((long) x.range(0, 50, 20, true));
        }
        values.add(Double.doubleToLongBits(x.freshShare()));
        values.add((long) buffer.length());
        buffer.chars().forEach(c -> values.add((long) c));
        long hash = 2953;
        for (long value : values) {
            hash = 31 * hash + value;
        }
        return hash;
    }

    private interface Step {
        void on(RunicSticks x);
    }

    /** An object is promised for 512 calls alone, so the one that tells what is due is another one, made alike. */
    private static void digestIs(String name, String buffer, Step... steps) {
        RunicSticks x = new RunicSticks();
        RunicSticks twin = new RunicSticks();
        for (Step step : steps) {
            step.on(x);
            step.on(twin);
        }
        check.same(name, x.digest(), digestOf(twin, buffer));
    }

    private static void digest() {
        digestIs("digest of a new one", "");
        digestIs("digest with a buffer", "d5;x~!", x -> Check.type(x, "d5;x~!"));
        Step feasts = x -> Check.proclaim(x, "m0,5^1;d12;w80,0;a2-46^9;a3+90;d365;d365");
        digestIs("digest with feasts", "", feasts);
        Step settings = x -> {
            x.teach(0, -3);
            x.teach(1, 5);
            x.teach(2, -5);
            x.set(50);
        };
        digestIs("digest with slips", "", feasts, settings);
        for (int sticks = 1; sticks <= 6; sticks++) {
            int last = sticks;
            digestIs("digest with sticks", "", feasts, settings, x -> carveAndForget(x, last));
        }
        sharesOfAllKinds();
    }

    private static void carveAndForget(RunicSticks x, int sticks) {
        for (int year = 0; year < sticks; year++) {
            x.carve(year * 100, year % 3);
            x.forget();
        }
    }

    /** Shares from 0.0 to 1.0, whose bits the digest tells. */
    private static void sharesOfAllKinds() {
        for (int feasts = 1; feasts <= 10; feasts++) {
            String text = "d1;".repeat(feasts - 1) + "d1";
            for (int left = feasts; left >= 0; left--) {
                int forgotten = feasts - left;
                Step step = x -> {
                    Check.proclaim(x, text);
                    x.carve(1, 0);
                    for (int i = 0; i < forgotten; i++) {
                        x.forget();
                    }
                };
                RunicSticks x = new RunicSticks();
                step.on(x);
                check.same("the share", x.freshShare(), (double) left / feasts);
                digestIs("digest with a share", "", step);
            }
        }
    }

    private static void looksChangeNothing() {
        RunicSticks x = Check.calendar("m0,5^1;d12;w80,0;a2-46^9", -5, 0, 5);
        x.carve(3, 1);
        Check.type(x, "d1");
        long before = x.digest();
        x.day(0, 12, 2);
        x.when(1, 7, 2, false);
        x.settled(1, 7);
        x.quarrels(7);
        x.stick(0, 3);
        x.count(6);
        x.range(2, 100, 40, true);
        x.alike(5);
        x.peace(2, 8);
        x.moved(9, 1);
        x.freshShare();
        x.firstError();
        check.same("looks change nothing", x.digest(), before);
    }
}
