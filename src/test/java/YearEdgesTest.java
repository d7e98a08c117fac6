/** Years, days, moons, proper days and notches: the first and the last ones, and what is not within the year. */
public final class YearEdgesTest {
    private static final Check check = new Check();

    public static void main(String[] args) {
        lengthsOfYears();
        weekdaysFollowOneAnother();
        firstAndLastDays();
        aDayThatTheYearDoesNotHave();
        moonByTheRestOfTheYear();
        moonByTheSetting();
        moonBySlips();
        moonByTheDay();
        agesFollowOneAnother();
        fixedDayNotWithinTheYear();
        weekdayOnTheDayItself();
        weekdayNotWithinTheYear();
        fullMoonOnTheDayItself();
        fullMoonOnTheFirstDay();
        fullMoonOnTheLastDay();
        fullMoonNotWithinTheYear();
        fullMoonThatIsLeftOut();
        weekdayPastTheMoonNotWithinTheYear();
        otherFeastAtTheEdges();
        otherFeastWithoutAProperDay();
        otherFeastThatGivesWay();
        longChain();
        notchesAtTheEndOfTheYear();
        notchesAtTheStartOfTheYear();
        notchesByRanks();
        noProperDayTakesNoNotch();
        check.finish("YearEdgesTest");
    }

    // ---- years and days

    private static void lengthsOfYears() {
        RunicSticks x = new RunicSticks();
        for (int year = 0; year <= 999; year++) {
            if (year % 250 == 0) {
                x = new RunicSticks();
            }
            check.same("day 364 of " + year + " is one", x.day(year, 364, 0) == -1 ? 1 : 0, 0);
            check.same("day 365 of " + year + " is one", x.day(year, 365, 0) == -1 ? 0 : 1, year % 4 == 0 ? 1 : 0);
        }
        for (int year : new int[] {100, 200, 300, 400, 500, 900}) {
            check.same("the day 365 of " + year, x.day(year, 365, 0) >= 0 ? 1 : 0, 1);
        }
    }

    private static void weekdaysFollowOneAnother() {
        int due = 0;
        RunicSticks x = new RunicSticks();
        for (int year = 0; year <= 999; year++) {
            if (year % 100 == 0) {
                x = new RunicSticks();
            }
            int last = year % 4 == 0 ? 365 : 364;
            check.same("weekday of the day 0 of " + year, x.day(year, 0, 0), due);
            check.same("weekday of the last day of " + year, x.day(year, last, 0), (due + last) % 7);
            due = (due + last + 1) % 7;
        }
        for (int year : new int[] {0, 1, 4, 999}) {
            x = new RunicSticks();
            for (int day = 1; day <= 364; day++) {
                check.same("weekday of " + day, x.day(year, day, 0), (x.day(year, 0, 0) + day) % 7);
                x = day % 200 == 0 ? new RunicSticks() : x;
            }
        }
    }

    private static void firstAndLastDays() {
        int[][] due = {{0, 0, 0, 5}, {0, 365, 1, 16}, {1, 0, 2, 16}, {1, 364, 2, 26}, {998, 0, 2, 28}, {999, 0, 3, 9},
            {999, 364, 3, 19}, {996, 365, 0, 17}};
        for (int[] d : due) {
            RunicSticks x = new RunicSticks();
            check.same("weekday of " + d[0] + " " + d[1], x.day(d[0], d[1], 0), d[2]);
            check.same("moon of " + d[0] + " " + d[1], x.day(d[0], d[1], 1), d[3]);
            check.same("feast of " + d[0] + " " + d[1], x.day(d[0], d[1], 2), -1);
        }
        RunicSticks x = Check.calendar("d0;d364;d365");
        check.same("the feast of the day 0", x.day(0, 0, 2), 0);
        check.same("the feast of the day 364", x.day(999, 364, 2), 1);
        check.same("the feast of the day 365", x.day(996, 365, 2), 2);
    }

    private static void aDayThatTheYearDoesNotHave() {
        RunicSticks x = Check.calendar("d364;d364");
        for (int year : new int[] {1, 2, 3, 5, 997, 998, 999}) {
            for (int what = 0; what <= 2; what++) {
                check.same("day(" + year + ", 365, " + what + ")", x.day(year, 365, what), -1);
            }
        }
        check.same("a leap year has it", x.day(4, 365, 2), 1);
        check.refuses("what is wrong, and there is no such day", x, IllegalArgumentException.class,
            () -> x.day(1, 365, 3));
    }

    // ---- moons

    private static void ageIs(RunicSticks x, int year, int day, int due) {
        check.same("moon of " + year + " " + day, x.day(year, day, 1), due);
    }

    private static void moonByTheRestOfTheYear() {
        RunicSticks x = new RunicSticks();
        int[][] due = {{0, 5}, {1, 16}, {17, 12}, {18, 23}, {19, 5}, {20, 16}, {37, 23}, {38, 5}};
        for (int[] d : due) {
            ageIs(x, d[0], 0, d[1]);
        }
    }

    private static void moonByTheSetting() {
        int[][] due = {{300, 299, 9}, {300, 300, 21}, {300, 599, 26}, {300, 600, 8}, {300, 899, 13}, {300, 900, 25},
            {50, 49, 6}, {50, 50, 18}, {50, 99, 20}, {50, 100, 2}, {50, 949, 11}, {50, 950, 24}, {50, 999, 25},
            {400, 399, 5}, {400, 400, 17}, {400, 799, 17}, {400, 800, 29}, {400, 999, 8}, {51, 50, 17}, {51, 51, 29}};
        for (int[] d : due) {
            RunicSticks x = new RunicSticks();
            x.set(d[0]);
            ageIs(x, d[1], 0, d[2]);
        }
    }

    private static void moonBySlips() {
        RunicSticks x = new RunicSticks();
        x.teach(1, 5);
        x.teach(2, -5);
        ageIs(x, 0, 0, 5);
        for (int slip = -5; slip <= 5; slip++) {
            x.teach(0, slip);
            ageIs(x, 0, 0, slip + 5);
        }
    }

    private static void moonByTheDay() {
        RunicSticks x = new RunicSticks();
        int[][] due = {{0, 5}, {24, 29}, {25, 0}, {58, 3}, {59, 5}, {117, 3}, {118, 5}, {176, 3}, {177, 5}, {235, 3},
            {236, 5}, {294, 3}, {295, 5}, {353, 3}, {354, 5}, {364, 15}, {365, 16}};
        for (int[] d : due) {
            ageIs(x, 0, d[0], d[1]);
        }
    }

    private static void agesFollowOneAnother() {
        for (int year : new int[] {0, 999}) {
            RunicSticks x = new RunicSticks();
            int age = x.day(year, 0, 1);
            for (int day = 1; day <= 364; day++) {
                age = (age + (day % 59 == 0 ? 2 : 1)) % 30;
                ageIs(x, year, day, age);
            }
        }
    }

    // ---- proper days

    private static void properIs(String text, int slip, int year, int due) {
        RunicSticks x = Check.calendar(text);
        x.teach(2, slip);
        int feast = x.count(0) - 1;
        String name = " of " + text + " in " + year + " by the slip " + slip;
        check.same("proper day" + name, x.when(feast, year, 2, true), due);
        if (feast == 0) {
            check.same("notch" + name, x.when(0, year, 2, false), due);
        }
    }

    private static void properIs(String text, int year, int due) {
        properIs(text, 0, year, due);
    }

    private static void fixedDayNotWithinTheYear() {
        for (int year : new int[] {0, 1, 996, 999}) {
            properIs("d0", year, 0);
            properIs("d364", year, 364);
            properIs("d365", year, year % 4 == 0 ? 365 : -1);
        }
    }

    private static void weekdayOnTheDayItself() {
        properIs("w0,0", 0, 0);
        properIs("w0,6", 0, 6);
        properIs("w1,0", 0, 7);
        properIs("w0,2", 1, 0);
        properIs("w0,1", 1, 6);
        properIs("w364,2", 1, 364);
        properIs("w365,1", 0, 365);
        properIs("w365,0", 996, 365);
        properIs("w0,3", 999, 0);
        properIs("w364,3", 999, 364);
    }

    private static void weekdayNotWithinTheYear() {
        properIs("w359,1", 0, 365);
        properIs("w360,2", 0, -1);
        properIs("w358,2", 1, 364);
        properIs("w359,3", 1, -1);
        properIs("w364,4", 999, -1);
        for (int weekday = 0; weekday <= 6; weekday++) {
            properIs("w365," + weekday, 1, -1);
            properIs("w365," + weekday, 999, -1);
            properIs("w365," + weekday, 0, weekday == 1 ? 365 : -1);
        }
    }

    private static void fullMoonOnTheDayItself() {
        // year 0, slip 0: full on 9 (weekday 2), 39 (4)
        properIs("m8,3", 0, 10);
        properIs("m9,3", 0, 10);
        properIs("m9,2", 0, 16);
        properIs("m9,1", 0, 15);
        properIs("m10,3", 0, 45);
        properIs("m39,5", 0, 40);
        properIs("m39,4", 0, 46);
    }

    private static void fullMoonOnTheFirstDay() {
        // year 1 by the slip -2: full on 0 (weekday 2), 30 (4)
        properIs("m0,3", -2, 1, 1);
        properIs("m0,2", -2, 1, 7);
        properIs("m1,2", -2, 1, 35);
    }

    private static void fullMoonOnTheLastDay() {
        for (int weekday = 0; weekday <= 6; weekday++) {
            // year 0 by the slip -2: full on 336 (weekday 0) and 365; year 3 by -4: on 364
            properIs("m365," + weekday, -2, 0, -1);
            properIs("m337," + weekday, -2, 0, -1);
            properIs("m336," + weekday, -2, 0, weekday == 0 ? 343 : 336 + weekday);
            properIs("m364," + weekday, -4, 3, -1);
        }
        // year 0 by the slip -1: full on 364; year 3 by -3: on 363, a day with the weekday 3
        properIs("m364,1", -1, 0, 365);
        properIs("m364,2", -1, 0, -1);
        properIs("m363,4", -3, 3, 364);
        properIs("m363,5", -3, 3, -1);
        properIs("m363,3", -3, 3, -1);
    }

    private static void fullMoonNotWithinTheYear() {
        for (int weekday = 0; weekday <= 6; weekday++) {
            properIs("m365," + weekday, -1, 0, -1);
            properIs("m364," + weekday, -3, 3, -1);
            properIs("m365," + weekday, 0, 1, -1);
            properIs("m365," + weekday, 0, 999, -1);
        }
    }

    private static void fullMoonThatIsLeftOut() {
        // year 1 by the slip -1: full on 29 (weekday 3), then left out as 59 comes, then on 88 (6), the last one on 324
        properIs("m29,0", -1, 1, 33);
        properIs("m29,3", -1, 1, 36);
        properIs("m30,0", -1, 1, 89);
        properIs("m59,6", -1, 1, 95);
        properIs("m324,0", -1, 1, 327);
        properIs("m325,0", -1, 1, -1);
        properIs("m354,0", -1, 1, -1);
    }

    private static void weekdayPastTheMoonNotWithinTheYear() {
        // year 0, slip 0: full on 363 (weekday 6)
        properIs("m363,0", 0, 364);
        properIs("m363,1", 0, 365);
        properIs("m363,2", 0, -1);
        properIs("m363,6", 0, -1);
        properIs("m364,0", 0, -1);
    }

    private static void otherFeastAtTheEdges() {
        properIs("d10;a0-10", 0, 0);
        properIs("d10;a0-11", 0, -1);
        properIs("d90;a0-90", 999, 0);
        properIs("d89;a0-90", 999, -1);
        properIs("d0;a0-0", 0, 0);
        properIs("d0;a0+0", 0, 0);
        properIs("d0;a0-1", 0, -1);
        properIs("d275;a0+90", 0, 365);
        properIs("d275;a0+90", 1, -1);
        properIs("d274;a0+90", 1, 364);
        properIs("d276;a0+90", 0, -1);
        properIs("d365;a0+0", 0, 365);
        properIs("d365;a0+1", 0, -1);
        properIs("d364;a0+1", 0, 365);
        properIs("d364;a0+1", 999, -1);
    }

    private static void otherFeastWithoutAProperDay() {
        properIs("d365;a0-1", 1, -1);
        properIs("d365;a0-90", 999, -1);
        properIs("d365;a0-1", 0, 364);
        properIs("d0;a0-1;a1+1", 0, -1);
        properIs("d364;a0+1;a1-1", 1, -1);
        properIs("d364;a0+1;a1-1", 0, 364);
        properIs("m363,2;a0-90", 0, -1);
        properIs("w365,0;a0-90", 0, -1);
    }

    private static void otherFeastThatGivesWay() {
        properIs("d10;d10^5;a0+20", 0, 30);
        // the feast 0 has a proper day, but no notch
        properIs("d365;d365^1;a0-5", 0, 360);
    }

    private static void longChain() {
        String text = "d0;a0+1;a1+1;a2+1;a3+1;a4+1;a5+1;a6+1;a7+1;a8+1";
        RunicSticks x = Check.calendar(text);
        for (int feast = 0; feast < 10; feast++) {
            check.same("proper day of " + feast + " of a chain", x.when(feast, 999, 0, true), feast);
        }
        RunicSticks none = Check.calendar("d365;a0-1;a1-1;a2-1;a3-1;a4-1;a5-1;a6-1;a7-1;a8-1");
        for (int feast = 0; feast < 10; feast++) {
            check.same("proper day of " + feast + " of a chain", none.when(feast, 999, 0, true), -1);
            check.same("the same in a leap year", none.when(feast, 996, 0, true), 365 - feast);
        }
    }

    // ---- notches

    private static void notchesAre(String text, int year, int... due) {
        RunicSticks x = Check.calendar(text);
        int notches = 0;
        int moves = 0;
        for (int feast = 0; feast < due.length; feast++) {
            check.same("notch of " + feast + " of " + text + " in " + year, x.when(feast, year, 1, false), due[feast]);
            check.same("settled notch of " + feast + " of " + text, x.settled(feast, year), due[feast]);
            notches += due[feast] >= 0 ? 1 : 0;
            moves += due[feast] >= 0 && due[feast] != x.when(feast, year, 1, true) ? 1 : 0;
        }
        check.same("moved of " + text + " in " + year, x.moved(year, 1), moves);
        check.same("notches of " + text + " in " + year, x.carve(year, 1), notches);
    }

    private static void notchesAtTheEndOfTheYear() {
        notchesAre("d365;d365", 0, 365, -1);
        notchesAre("d365;d365", 1, -1, -1);
        notchesAre("d364;d364", 0, 364, 365);
        notchesAre("d364;d364", 1, 364, -1);
        notchesAre("d364;d364;d364", 996, 364, 365, -1);
        notchesAre("d364;d364", 999, 364, -1);
        notchesAre("d364;d363;d363", 999, 364, 363, -1);
        notchesAre("d365;d364;d364", 4, 365, 364, -1);
        String ten = "d356;".repeat(9) + "d356";
        notchesAre(ten, 0, 356, 357, 358, 359, 360, 361, 362, 363, 364, 365);
        notchesAre(ten, 1, 356, 357, 358, 359, 360, 361, 362, 363, 364, -1);
        notchesAre("d365;".repeat(9) + "d365", 0, 365, -1, -1, -1, -1, -1, -1, -1, -1, -1);
    }

    private static void notchesAtTheStartOfTheYear() {
        notchesAre("d0", 999, 0);
        notchesAre("d0;d0", 0, 0, 1);
        notchesAre("d0;".repeat(9) + "d0", 999, 0, 1, 2, 3, 4, 5, 6, 7, 8, 9);
        notchesAre("d0;".repeat(9) + "d0^9", 0, 1, 2, 3, 4, 5, 6, 7, 8, 9, 0);
        notchesAre("d1;d0;d0", 0, 1, 0, 2);
    }

    private static void notchesByRanks() {
        notchesAre("d5^0;d5^9", 0, 6, 5);
        notchesAre("d5^8;d5^9", 0, 6, 5);
        notchesAre("d5^9;d5^9", 0, 5, 6);
        notchesAre("d5;d5^0;d5^1", 0, 6, 7, 5);
        notchesAre("d364;d364^9", 1, -1, 364);
        notchesAre("d10;d10^9;d11^9;d12^9", 0, 13, 10, 11, 12);
        notchesAre("d10^9;d12^9;d10", 0, 10, 12, 11);
        notchesAre("d10^9;d10^8;d10^7;d11^6;d9", 0, 10, 11, 12, 13, 9);
    }

    private static void noProperDayTakesNoNotch() {
        notchesAre("d365^9;d364;d364", 1, -1, 364, -1);
        notchesAre("d0;a0-1^9;d0", 1, 0, -1, 1);
        notchesAre("m363,2^9;d365", 0, -1, 365);
    }
}
