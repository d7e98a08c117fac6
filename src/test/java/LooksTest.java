/** Promises 13 to 19: day, feast, when, settled, quarrels, stick, count. */
public final class LooksTest {
    private static final Check check = new Check();

    public static void main(String[] args) {
        weekdays();
        moons();
        feastsOfDays();
        dayRefuses();
        feast();
        fixedDays();
        weekdaysFromADay();
        weekdaysPastTheMoon();
        otherFeasts();
        notches();
        whenRefuses();
        settled();
        quarrels();
        stick();
        staleFeasts();
        count();
        check.finish("LooksTest");
    }

    private static void weekdays() {
        RunicSticks x = new RunicSticks();
        int[][] due = {{0, 0, 0}, {0, 6, 6}, {0, 7, 0}, {0, 365, 1}, {1, 0, 2}, {1, 364, 2}, {1, 365, -1}, {2, 0, 3},
            {4, 0, 5}, {4, 365, 6}, {5, 0, 0}, {100, 365, 0}, {998, 365, -1}, {996, 365, 0}, {999, 0, 3}, {999, 364, 3}};
        for (int[] d : due) {
            check.same("weekday of " + d[0] + " " + d[1], x.day(d[0], d[1], 0), d[2]);
        }
    }

    private static void moons() {
        RunicSticks x = new RunicSticks();
        int[][] due = {{0, 0, 5}, {0, 9, 14}, {0, 24, 29}, {0, 25, 0}, {0, 58, 3}, {0, 59, 5}, {0, 363, 14}, {1, 0, 16},
            {18, 0, (11 * 18 + 5) % 30}, {19, 0, 5}, {299, 0, 9}, {300, 0, 21}, {999, 0, (11 * 11 + 3 + 5) % 30}, {3, 365, -1}};
        for (int[] d : due) {
            check.same("moon of " + d[0] + " " + d[1], x.day(d[0], d[1], 1), d[2]);
        }
        x.teach(1, 4);
        x.teach(2, 4);
        check.same("the moon by the carver 0", x.day(0, 9, 1), 14);
        x.teach(0, -5);
        check.same("the moon by its slip", x.day(0, 0, 1), 0);
    }

    private static void feastsOfDays() {
        RunicSticks x = Check.calendar("d12;m0,5;d365", 0, -5, -5);
        check.same("a feast", x.day(0, 12, 2), 0);
        check.same("the settled notch, not the carver 0's", x.day(0, 19, 2), 1);
        check.same("no feast", x.day(0, 13, 2), -1);
        check.same("the last day", x.day(0, 365, 2), 2);
        check.same("no such day", x.day(1, 365, 2), -1);
        // 19, 12 and 5 for the feast 1; 10 and twice 12 for the feast 0, which gives way to it once
        RunicSticks both = Check.calendar("m0,5^1;d12", 0, -5, 5);
        check.same("both are settled on one day", both.settled(0, 0), both.settled(1, 0));
        check.same("the lowest of them", both.day(0, 12, 2), 0);
    }

    private static void dayRefuses() {
        RunicSticks x = new RunicSticks();
        int[][] wrong = {{-1, 0, 0}, {1000, 0, 0}, {0, -1, 0}, {0, 366, 0}, {1, 366, 0}, {0, 0, -1}, {0, 0, 3}, {1, 365, 3},
            {Integer.MIN_VALUE, 0, 0}, {0, Integer.MAX_VALUE, 0}};
        for (int[] w : wrong) {
            check.refuses("day", x, IllegalArgumentException.class, () -> x.day(w[0], w[1], w[2]));
        }
    }

    private static void feast() {
        RunicSticks x = Check.calendar("d300^2;w7,6;m365,0;a1-9^8");
        int[][] due = {{0, 2, 300, -1}, {1, 0, 7, 6}, {2, 0, 365, 0}, {3, 8, 81, 1}};
        for (int feast = 0; feast < due.length; feast++) {
            for (int what = 0; what < 4; what++) {
                check.same("feast(" + feast + ", " + what + ")", x.feast(feast, what), due[feast][what]);
            }
        }
        check.refuses("feast(4, 0)", x, IndexOutOfBoundsException.class, () -> x.feast(4, 0));
        check.refuses("feast(-1, 9)", x, IndexOutOfBoundsException.class, () -> x.feast(-1, 9));
        check.refuses("feast(0, 4)", x, IllegalArgumentException.class, () -> x.feast(0, 4));
        check.refuses("feast(0, -1)", x, IllegalArgumentException.class, () -> x.feast(0, -1));
    }

    private static void properIs(String text, int feast, int year, int due) {
        RunicSticks x = Check.calendar(text);
        check.same("proper day of " + feast + " of " + text + " in " + year, x.when(feast, year, 0, true), due);
    }

    private static void fixedDays() {
        properIs("d0", 0, 3, 0);
        properIs("d364", 0, 3, 364);
        properIs("d365", 0, 3, -1);
        properIs("d365", 0, 4, 365);
    }

    private static void weekdaysFromADay() {
        properIs("w0,0", 0, 0, 0);
        properIs("w1,0", 0, 0, 7);
        properIs("w0,1", 0, 1, 6);
        properIs("w0,2", 0, 1, 0);
        properIs("w365,1", 0, 0, 365);
        properIs("w365,2", 0, 0, -1);
        properIs("w364,2", 0, 1, 364);
        properIs("w364,3", 0, 1, -1);
        properIs("w365,3", 0, 1, -1);
    }

    private static void weekdaysPastTheMoon() {
        // year 0: full on 9, a day with the weekday 2, 39 (4), ..., 363 (6), which is the last one
        properIs("m0,3", 0, 0, 10);
        properIs("m0,2", 0, 0, 16);
        properIs("m9,3", 0, 0, 10);
        properIs("m10,4", 0, 0, 46);
        properIs("m10,5", 0, 0, 40);
        properIs("m363,1", 0, 0, 365);
        properIs("m363,2", 0, 0, -1);
        properIs("m364,0", 0, 0, -1);
        properIs("m365,0", 0, 1, -1);
        // year 1 by the slip -1: 29, then the age 14 is left out at 59, then 88 (weekday 6)
        RunicSticks x = Check.calendar("m0,0;m30,0", 0, -1, 0);
        check.same("a full moon", x.when(0, 1, 1, true), 33);
        check.same("a full moon that is left out", x.when(1, 1, 1, true), 89);
        check.same("the other carver", x.when(1, 1, 0, true), 61);
    }

    private static void otherFeasts() {
        properIs("d10;a0+5", 1, 0, 15);
        properIs("d10;a0-10", 1, 0, 0);
        properIs("d10;a0-11", 1, 0, -1);
        properIs("d300;a0+65", 1, 0, 365);
        properIs("d300;a0+65", 1, 1, -1);
        properIs("d365;a0-90", 1, 1, -1);
        properIs("d365;a0-90", 1, 0, 275);
        properIs("d0;a0-1;a1+5", 2, 0, -1);
        properIs("d0;a0+90;a1-80;a2-0;a3+3", 4, 0, 13);
        // by the other's proper day, though it gives way
        properIs("d10;d10^5;a0+20", 2, 0, 30);
    }

    private static void notchesAre(String text, int year, int... due) {
        RunicSticks x = Check.calendar(text);
        for (int feast = 0; feast < due.length; feast++) {
            check.same("notch of " + feast + " of " + text + " in " + year, x.when(feast, year, 0, false), due[feast]);
        }
    }

    private static void notches() {
        notchesAre("d10;d10;d10", 0, 10, 11, 12);
        notchesAre("d10^1;d10^2;d10^2", 0, 12, 10, 11);
        notchesAre("d10^9;d10^0;d11^8;d11", 0, 10, 12, 11, 13);
        notchesAre("d10;d12;d10;d11", 0, 10, 12, 11, 13);
        notchesAre("d365;d365;d1", 0, 365, -1, 1);
        notchesAre("d364;d364", 1, 364, -1);
        notchesAre("d364;d364", 0, 364, 365);
        notchesAre("d365;d364", 1, -1, 364);
        notchesAre("d0;d0;d0;d0;d0;d0;d0;d0;d0;d0^1", 0, 1, 2, 3, 4, 5, 6, 7, 8, 9, 0);
    }

    private static void whenRefuses() {
        RunicSticks x = Check.calendar("d1");
        int[][] noFeast = {{1, 0, 0}, {-1, 0, 0}, {1, 1000, 0}, {1, 0, 3}};
        for (int[] w : noFeast) {
            check.refuses("when", x, IndexOutOfBoundsException.class, () -> x.when(w[0], w[1], w[2], true));
        }
        int[][] wrong = {{0, -1, 0}, {0, 1000, 0}, {0, 0, -1}, {0, 0, 3}, {0, Integer.MAX_VALUE, Integer.MIN_VALUE}};
        for (int[] w : wrong) {
            check.refuses("when", x, IllegalArgumentException.class, () -> x.when(w[0], w[1], w[2], false));
        }
    }

    private static void settledIs(String text, int slip0, int slip1, int slip2, int due, int quarrels) {
        RunicSticks x = Check.calendar(text, slip0, slip1, slip2);
        String slips = " by " + slip0 + " " + slip1 + " " + slip2;
        check.same("settled of " + text + slips, x.settled(0, 0), due);
        check.same("quarrels of " + text + slips, x.quarrels(0), quarrels);
    }

    private static void settled() {
        // m0,5 in the year 0: the slip 0 tells 12, -5 tells 19, 5 tells 5
        settledIs("m0,5", 0, 0, 0, 12, 0);
        settledIs("m0,5", -5, 0, 0, 12, 1);
        settledIs("m0,5", 0, -5, 0, 12, 1);
        settledIs("m0,5", 0, 0, -5, 12, 1);
        settledIs("m0,5", 0, -5, 5, 12, 1);
        settledIs("m0,5", -5, 0, 5, 19, 1);
        settledIs("m0,5", 5, 0, -5, 5, 1);
        // m363,0: the slip 0 tells 364, 1 tells none
        settledIs("m363,0", 0, 1, 1, -1, 1);
        settledIs("m363,0", 1, 0, 0, 364, 1);
        settledIs("m363,0", 1, 1, 1, -1, 0);
        // m335,6: the slip 0 tells none, -5 tells 342, 5 tells 363
        settledIs("m335,6", 0, -5, 5, -1, 1);
        settledIs("m335,6", -5, 0, 5, 342, 1);
        RunicSticks x = Check.calendar("d1");
        check.refuses("settled(1, 0)", x, IndexOutOfBoundsException.class, () -> x.settled(1, 0));
        check.refuses("settled(-1, -1)", x, IndexOutOfBoundsException.class, () -> x.settled(-1, -1));
        check.refuses("settled(0, 1000)", x, IllegalArgumentException.class, () -> x.settled(0, 1000));
        check.refuses("settled(0, -1)", x, IllegalArgumentException.class, () -> x.settled(0, -1));
    }

    private static void quarrels() {
        RunicSticks x = Check.calendar("m0,5;d12;d50;a0+30", 0, -5, 0);
        // the feast 1 gives way by the carvers 0 and 2 alone
        check.same("quarrels", x.quarrels(0), 3);
        check.same("quarrels without feasts", new RunicSticks().quarrels(999), 0);
        check.refuses("quarrels(-1)", x, IllegalArgumentException.class, () -> x.quarrels(-1));
        check.refuses("quarrels(1000)", x, IllegalArgumentException.class, () -> x.quarrels(1000));
    }

    private static void stick() {
        RunicSticks x = Check.calendar("d1;d2");
        x.carve(5, 2);
        int[] due = {5, 2, 2, 0, 1, 2, -1, -1, -1, -1, -1, -1, -1, -1};
        for (int what = 0; what < due.length; what++) {
            check.same("stick(0, " + what + ")", x.stick(0, what), due[what]);
        }
        Check.proclaim(x, "d3");
        check.same("a later feast has no notch on it", x.stick(0, 6), -1);
        check.refuses("stick(1, 0)", x, IndexOutOfBoundsException.class, () -> x.stick(1, 0));
        check.refuses("stick(-1, 14)", x, IndexOutOfBoundsException.class, () -> x.stick(-1, 14));
        check.refuses("stick(0, 14)", x, IllegalArgumentException.class, () -> x.stick(0, 14));
        check.refuses("stick(0, -1)", x, IllegalArgumentException.class, () -> x.stick(0, -1));
        RunicSticks full = Check.calendar("d0;d0;d0;d0;d0;d0;d0;d0;d0;d0");
        full.carve(0, 0);
        check.same("the notch of the feast 9", full.stick(0, 13), 9);
    }

    private static void staleIs(RunicSticks x, String what, int... due) {
        int all = 0;
        for (int stick = 0; stick < due.length; stick++) {
            check.same(what + ": stale of " + stick, x.stick(stick, 3), due[stick]);
            all += due[stick];
        }
        check.same(what + ": stale of all", x.count(6), all);
    }

    private static void staleFeasts() {
        RunicSticks x = Check.calendar("m0,5;d12;d365");
        x.carve(1, 0);
        x.carve(0, 1);
        staleIs(x, "fresh", 0, 0);
        x.teach(1, -5);
        staleIs(x, "another slip", 2, 0);
        x.undo();
        staleIs(x, "the slip again", 0, 0);
        Check.proclaim(x, "d12^9");
        staleIs(x, "a feast that comes ahead", 2, 1);
        x.forget();
        x.forget();
        staleIs(x, "a feast without notch is forgotten too", 1, 1);
        Check.proclaim(x, "w365,1");
        staleIs(x, "told by its number", 0, 0);
        x.forget();
        x.carve(0, 1);
        Check.proclaim(x, "d30");
        check.same("a later feast is not stale", x.stick(0, 3), 0);
        x.set(50);
        check.same("the setting does not matter in the year 0", x.stick(0, 3), 0);
    }

    private static void count() {
        RunicSticks x = Check.calendar("d1;d2;d3", -5, 5, 1);
        x.carve(1, 1);
        x.carve(2, 1);
        x.forget();
        x.set(77);
        int[] due = {2, 2, 0, 10, 6, 77, 2, 6};
        for (int what = 0; what < due.length; what++) {
            check.same("count(" + what + ")", x.count(what), due[what]);
        }
        for (int what : new int[] {-1, 8, Integer.MIN_VALUE, Integer.MAX_VALUE}) {
            check.refuses("count " + what, x, IllegalArgumentException.class, () -> x.count(what));
        }
    }
}
