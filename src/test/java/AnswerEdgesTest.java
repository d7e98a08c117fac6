import java.math.BigInteger;

/** Quarrels, sticks, and what would be: none among the answers, the last year that counts, and a hash that overflows. */
public final class AnswerEdgesTest {
    private static final Check check = new Check();
    private static final String TEN_MOONS = "m0,0;".repeat(9) + "m0,0";

    public static void main(String[] args) {
        settledByTwoOfThree();
        settledAsNone();
        quarrelsOverNoneAndAll();
        previousAnswers();
        stickKeepsTheNotchesOfThen();
        staleByNone();
        staleByNumber();
        staleAtMost();
        freshShares();
        rangeOfYears();
        rangeOfYearsUpToTheLast();
        rangeWithoutNotches();
        alikeUpToTheLastYear();
        alikeAtMost100YearsLater();
        alikeInAllThatCounts();
        peaceAtTheEdges();
        peaceOfSeveral();
        movedAtTheEdges();
        digestOverflows();
        digestTakesTheRangeAsItStands();
        check.finish("AnswerEdgesTest");
    }

    // ---- carvers

    private static void settledIs(String text, int slip0, int slip1, int slip2, int due, int quarrels) {
        RunicSticks x = Check.calendar(text, slip0, slip1, slip2);
        String name = " of " + text + " by " + slip0 + " " + slip1 + " " + slip2;
        check.same("settled" + name, x.settled(0, 0), due);
        check.same("quarrels" + name, x.quarrels(0), quarrels);
        check.same("range" + name, x.range(0, 0, 1, true), due);
        if (due >= 0) {
            check.same("day" + name, x.day(0, due, 2), 0);
        }
    }

    private static void settledByTwoOfThree() {
        // m0,0 in the year 0: the slip -5 tells 21, -4 to 2 tell 14, 3 to 5 tell 7
        settledIs("m0,0", -4, 0, 2, 14, 0);
        settledIs("m0,0", -5, -5, 5, 21, 1);
        settledIs("m0,0", -5, 5, -5, 21, 1);
        settledIs("m0,0", 5, -5, -5, 21, 1);
        settledIs("m0,0", -5, 0, 5, 21, 1);
        settledIs("m0,0", 5, 0, -5, 7, 1);
        settledIs("m0,0", 0, 5, -5, 14, 1);
    }

    private static void settledAsNone() {
        // m363,0 in the year 0: the slip 0 tells 364, 1 tells none; m335,6: 0 tells none, -5 342, 5 363
        settledIs("m363,0", 1, 1, 1, -1, 0);
        settledIs("m363,0", 0, 1, 1, -1, 1);
        settledIs("m363,0", 1, 0, 1, -1, 1);
        settledIs("m363,0", 1, 1, 0, -1, 1);
        settledIs("m363,0", 0, 0, 1, 364, 1);
        settledIs("m363,0", 0, 1, 0, 364, 1);
        settledIs("m363,0", 1, 0, 0, 364, 1);
        settledIs("m335,6", 0, -5, 5, -1, 1);
        settledIs("m335,6", -5, 0, 5, 342, 1);
        settledIs("m335,6", 5, -5, 0, 363, 1);
    }

    private static void quarrelsOverNoneAndAll() {
        check.same("over none of ten", Check.calendar(TEN_MOONS).quarrels(0), 0);
        check.same("over all ten", Check.calendar(TEN_MOONS, 0, 0, -5).quarrels(0), 10);
        check.same("over all ten, all unlike", Check.calendar(TEN_MOONS, 0, 5, -5).quarrels(0), 10);
        check.same("none by all is no quarrel", Check.calendar("d365", 0, 5, -5).quarrels(999), 0);
        check.same("in the last year", Check.calendar("m0,0", 0, 5, -5).quarrels(999), 1);
    }

    private static void previousAnswers() {
        RunicSticks x = Check.calendar("d1;d2^9");
        check.same("rank: the previous one", x.rank(0, 9), 0);
        check.same("rank: the previous one", x.rank(0, 0), 9);
        check.same("rank: the previous one", x.rank(1, 0), 9);
        check.same("teach: the previous one, plus 5", x.teach(2, -5), 5);
        check.same("teach: the previous one, plus 5", x.teach(2, 5), 0);
        check.same("teach: the previous one, plus 5", x.teach(2, 0), 10);
        check.same("set: the previous one", x.set(50), 300);
        check.same("set: the previous one", x.set(400), 50);
        check.same("set: the previous one", x.set(300), 400);
        x.carve(0, 0);
        x.carve(999, 2);
        check.same("burn: its year", x.burn(0), 999);
        check.same("burn: its year", x.burn(0), 0);
    }

    // ---- sticks

    private static void stickIs(String name, RunicSticks x, int... due) {
        for (int what = 0; what < due.length; what++) {
            check.same(name + ": stick(0, " + what + ")", x.stick(0, what), due[what]);
        }
    }

    private static void stickKeepsTheNotchesOfThen() {
        RunicSticks x = Check.calendar("d365;m0,0;d0", 0, -5, 5);
        check.same("carve in the first year", x.carve(0, 0), 3);
        stickIs("the first year", x, 0, 0, 3, 0, 365, 14, 0, -1, -1, -1, -1, -1, -1, -1);
        check.same("carve in the last year", x.carve(999, 2), 2);
        // year 999 by the slip 5: the moon is full on the day 0, which has the weekday 3
        stickIs("the last year", x, 999, 2, 2, 0, -1, 4, 0, -1, -1, -1, -1, -1, -1, -1);
        x.teach(2, -5);
        Check.proclaim(x, "d4^9");
        check.same("its notch is as it was", x.stick(0, 5), 4);
        check.same("a later feast has none on it", x.stick(0, 7), -1);
        check.same("its notches", x.stick(0, 2), 2);
        check.same("one is stale", x.stick(0, 3), 1);
    }

    private static void staleIs(String name, RunicSticks x, int due) {
        check.same(name + ": stale of the stick", x.stick(0, 3), due);
        check.same(name + ": stale of all", x.count(6), due);
    }

    private static void staleByNone() {
        // m363,0 in the year 0: the slip 0 tells 364, 1 tells none
        RunicSticks x = Check.calendar("m363,0");
        x.carve(0, 0);
        staleIs("a day, as it was", x, 0);
        x.teach(0, 1);
        staleIs("a day, now none", x, 1);
        x.burn(0);
        x.carve(0, 0);
        staleIs("none, as it was", x, 0);
        x.teach(0, 0);
        staleIs("none, now a day", x, 1);
        x.teach(1, 5);
        x.teach(0, 1);
        staleIs("another carver's slip does not matter", x, 0);
    }

    private static void staleByNumber() {
        RunicSticks x = new RunicSticks();
        x.carve(1, 0);
        Check.proclaim(x, "d1;d365;d3");
        staleIs("a feast that was not there when it was carved", x, 0);
        x.burn(0);
        x.carve(1, 0);
        x.forget();
        staleIs("no feast with this number", x, 1);
        x.forget();
        staleIs("no feast with this number, whose notch was none", x, 2);
        Check.proclaim(x, "a0-2");
        staleIs("another feast with the same notch", x, 1);
        Check.proclaim(x, "w3,5");
        staleIs("both have the same notches", x, 0);
        x.forget();
        x.forget();
        x.forget();
        staleIs("no feast at all", x, 3);
    }

    private static RunicSticks tenFeastsOnFiveSticks() {
        RunicSticks x = Check.calendar("d0;d1;d2;d3;d4;d5;d6;d7;d8;d9");
        for (int stick = 0; stick < 5; stick++) {
            x.carve(stick, stick % 3);
        }
        return x;
    }

    private static void staleAtMost() {
        RunicSticks x = tenFeastsOnFiveSticks();
        check.same("none is stale", x.count(6), 0);
        for (int gone = 1; gone <= 10; gone++) {
            x.forget();
            check.same("stale of the latest stick", x.stick(0, 3), gone);
            check.same("stale of the oldest stick", x.stick(4, 3), gone);
            check.same("stale of all", x.count(6), 5 * gone);
        }
    }

    private static void freshShares() {
        RunicSticks x = new RunicSticks();
        check.same("no sticks", x.freshShare(), 1.0);
        x.carve(0, 0);
        check.same("a stick, but no feasts", x.freshShare(), 1.0);
        Check.proclaim(x, "d1");
        x.carve(0, 0);
        check.same("one of one", x.freshShare(), 1.0);
        x.forget();
        check.same("none of one", x.freshShare(), 0.0);
        x.burn(0);
        check.same("no feasts again", x.freshShare(), 1.0);
        RunicSticks full = tenFeastsOnFiveSticks();
        check.same("fifty of fifty", full.freshShare(), 1.0);
        full.forget();
        check.same("45 of 50", full.freshShare(), 45.0 / 50.0);
        for (int left = 8; left >= 0; left--) {
            full.forget();
            check.same(5 * left + " of 50", full.freshShare(), 5.0 * left / 50.0);
        }
    }

    // ---- range

    private static void rangeIs(String text, int from, int years, int earliest, int latest) {
        RunicSticks x = Check.calendar(text);
        String name = " of " + text + ", " + years + " from " + from;
        check.same("earliest" + name, x.range(0, from, years, false), earliest);
        check.same("latest" + name, x.range(0, from, years, true), latest);
    }

    private static void rangeOfYears() {
        // m80,0 in the year 48 tells 115, in the year 99 tells 96
        check.same("m80,0 in the year 48", Check.calendar("m80,0").settled(0, 48), 115);
        rangeIs("m80,0", 48, 1, 115, 115);
        rangeIs("m80,0", 9, 39, 82, 113);
        rangeIs("m80,0", 9, 40, 82, 115);
        rangeIs("m80,0", 8, 40, 82, 113);
        rangeIs("m80,0", 48, 40, 81, 115);
        rangeIs("m80,0", 49, 40, 81, 112);
        rangeIs("d0", 0, 1, 0, 0);
        rangeIs("d0", 0, 40, 0, 0);
        rangeIs("d364", 999, 40, 364, 364);
    }

    private static void rangeOfYearsUpToTheLast() {
        // m4,2 in the year 999 tells 6, in those from 960 on 8 to 40
        check.same("m4,2 in the year 999", Check.calendar("m4,2").settled(0, 999), 6);
        rangeIs("m4,2", 960, 39, 8, 40);
        rangeIs("m4,2", 960, 40, 6, 40);
        rangeIs("m4,2", 999, 1, 6, 6);
        rangeIs("m4,2", 999, 40, 6, 6);
        // the year 1000 would be a leap year
        rangeIs("d365", 996, 40, 365, 365);
        rangeIs("d365", 997, 40, -1, -1);
    }

    private static void rangeWithoutNotches() {
        rangeIs("d365", 1, 3, -1, -1);
        rangeIs("d365", 1, 4, 365, 365);
        rangeIs("d365", 0, 1, 365, 365);
        rangeIs("d365", 999, 1, -1, -1);
        // the year 16 is the first leap year whose day 365 has the weekday 0
        rangeIs("w365,0", 1, 15, -1, -1);
        rangeIs("w365,0", 1, 16, 365, 365);
        rangeIs("d365;d365^9", 0, 40, -1, -1);
        rangeIs("d364;d364^9", 0, 40, 365, 365);
    }

    // ---- alike

    private static void alikeIs(String text, int year, int due) {
        RunicSticks x = text.isEmpty() ? new RunicSticks() : Check.calendar(text);
        check.same("alike " + year + " with " + text, x.alike(year), due);
    }

    private static void alikeUpToTheLastYear() {
        alikeIs("", 0, 28);
        alikeIs("", 1, 7);
        alikeIs("", 993, 999);
        alikeIs("", 968, 996);
        alikeIs("", 972, -1);
        alikeIs("", 994, -1);
        alikeIs("", 996, -1);
        alikeIs("", 998, -1);
        alikeIs("", 999, -1);
    }

    /** Within 100 years, a year with as many days and the same weekday is at most 95 years later; then comes 101. */
    private static void alikeAtMost100YearsLater() {
        alikeIs("m80,0", 75, 170);
        alikeIs("m80,0", 1, 91);
        RunicSticks far = Check.calendar("m31,0");
        far.set(100);
        check.same("411 has the notch of 310", far.settled(0, 411), far.settled(0, 310));
        check.same("411 has the weekday of 310", far.day(411, 0, 0), far.day(310, 0, 0));
        check.same("but it is 101 years later", far.alike(310), -1);
    }

    private static void alikeInAllThatCounts() {
        // 5 is the next year whose day 0 has the weekday of the year 0, but it has 365 days; 28 has 366
        alikeIs("d5", 0, 28);
        alikeIs("d365", 0, 28);
        alikeIs("d365", 1, 7);
        // m0,0 tells 14 in the years 0 and 84, 7 in the year 28, 28 in the year 56
        alikeIs("m0,0", 0, 84);
        alikeIs("d5;m0,0", 0, 84);
        alikeIs("m0,0;d5", 0, 84);
        // the carver 0 alone tells 7 in the year 0, 14 in the year 84; the settled notches are the same
        check.same("alike by settled notches", Check.calendar("m0,0", 4, 0, 0).alike(0), 84);
        check.same("not by the carver 1's", Check.calendar("m0,0", 0, 4, 0).alike(0), 84);
        check.same("not alike by settled notches", Check.calendar("m0,0", 0, 4, 4).alike(0), -1);
        // none in the years 2 and 13
        alikeIs("d365", 2, 13);
    }

    // ---- peace, moved

    private static void peaceIs(String text, int slip0, int slip1, int slip2, int carver, int due) {
        RunicSticks x = Check.calendar(text, slip0, slip1, slip2);
        String name = " of " + carver + " with " + text + " by " + slip0 + " " + slip1 + " " + slip2;
        check.same("peace" + name, x.peace(carver, 0), due);
        check.same("the slip is as it was" + name, x.count(2 + carver), 5 + new int[] {slip0, slip1, slip2}[carver]);
    }

    private static void peaceAtTheEdges() {
        // m0,0 in the year 0: the slip -5 alone tells 21; m0,5: 5 alone tells 5
        for (int slip : new int[] {-5, -4, 0, 4, 5}) {
            peaceIs("m0,0", slip, -5, -5, 0, 0);
            peaceIs("m0,0", -5, slip, -5, 1, 0);
            peaceIs("m0,0", -5, -5, slip, 2, 0);
            peaceIs("m0,5", slip, 5, 5, 0, 10);
            peaceIs("m0,5", 5, slip, 5, 1, 10);
            peaceIs("m0,5", 5, 5, slip, 2, 10);
        }
        check.same("peace in the last year without feasts", new RunicSticks().peace(0, 999), 5);
    }

    private static void peaceOfSeveral() {
        // m0,0: 3 to 5 tell 7, so the one with the least size is 3; m0,5: -5 to -3 tell 19, so it is -3
        peaceIs("m0,0", 5, 0, 5, 1, 8);
        peaceIs("m0,5", -5, 0, -5, 1, 2);
        peaceIs("m0,0", -4, -5, 2, 1, 5);
        // they quarrel by every slip
        peaceIs("m0,0", -5, 4, 5, 1, 5);
        peaceIs(TEN_MOONS, -5, -5, 5, 1, 5);
        // none by all is peace too: m363,0 tells none by -1 and by 1, but not by 0; so it is the lower one
        peaceIs("m363,0", 5, 0, 1, 1, 4);
        // over all ten by 0; over nine by 3, 4 and 5, by which m0,0 tells 7
        peaceIs("m0,0;m0,5;a1+20;a1+21;a1+22;a1+23;a1+24;a1+25;a1+26;a1+27", 4, 0, 5, 1, 8);
        // -4 and 4 are the only ones by which they quarrel least
        peaceIs("m0,6^1;d13", -5, 0, 5, 1, 1);
    }

    private static void movedAtTheEdges() {
        check.same("none of one", Check.calendar("d0").moved(0, 0), 0);
        check.same("the feast 0", Check.calendar("d0;d0^1").moved(0, 0), 1);
        check.same("the feast 9", Check.calendar("d5;d6;d7;d8;d9;d10;d11;d12;d13;d5").moved(0, 2), 1);
        check.same("nine of ten", Check.calendar("d0;".repeat(9) + "d0").moved(999, 1), 9);
        check.same("eight of ten, and one without notch", Check.calendar("d356;".repeat(9) + "d356").moved(1, 0), 8);
        check.same("one without notch", Check.calendar("d365;d365").moved(0, 0), 0);
        check.same("none has a proper day", Check.calendar("d365;d365").moved(1, 0), 0);
        check.same("by the carver 1's slip", Check.calendar("m0,5;d19", 0, -5, 0).moved(0, 1), 1);
        check.same("by the carver 0's slip", Check.calendar("m0,5;d19", 0, -5, 0).moved(0, 0), 0);
    }

    // ---- digest

    /** The hash without overflow: far more than a long holds; what the long keeps of it is due. */
    private static void digestIs(String name, RunicSticks x, long... values) {
        BigInteger hash = BigInteger.valueOf(2953);
        for (long value : values) {
            hash = hash.multiply(BigInteger.valueOf(31)).add(BigInteger.valueOf(value));
        }
        check.same(name + ": it overflows", hash.bitLength() > 63 ? 1 : 0, 1);
        check.same(name, x.digest(), hash.longValue());
    }

    private static void digestOverflows() {
        long one = Double.doubleToLongBits(1.0);
        digestIs("a new one", new RunicSticks(), 0, 0, 5, 5, 5, 300, 0, 0, 0, 0, 0, 0, 0, 0, 0, 0, 0, 0, 0, 0, 48, 5, one, 0);
        RunicSticks buffer = new RunicSticks();
        Check.type(buffer, "!~");
        digestIs("a buffer", buffer, 0, 0, 5, 5, 5, 300, 0, 0, 0, 0, 0, 0, 0, 0, 0, 0, 0, 0, 0, 0, 48, 5, one, 2, 33, 126);
        RunicSticks full = new RunicSticks();
        Check.type(full, "~".repeat(60));
        long[] signs = new long[84];
        System.arraycopy(new long[] {0, 0, 5, 5, 5, 300, 0, 0, 0, 0, 0, 0, 0, 0, 0, 0, 0, 0, 0, 0, 48, 5, one, 60}, 0,
            signs, 0, 24);
        java.util.Arrays.fill(signs, 24, 84, 126);
        digestIs("a full buffer", full, signs);
        RunicSticks day = Check.calendar("d365^9");
        day.carve(777, 1);
        long[] values = {1, 1, 5, 5, 5, 300, 0, 2,
            0, 9, 365, -1,
            365, 365, 365, 365, 365, 365, 365, 365, 365, 365, 365, 365, 365, 365, -1, -1, -1, -1, -1, -1, -1,
            0, 0, 0, 0, 0, 0, 0, 0, 0, 0, 0, 0,
            777, 1, 0, 0, -1, -1, -1, -1, -1, -1, -1, -1, -1, -1,
            48, 5, 365, 365, one, 0};
        digestIs("a feast and a stick", day, values);
        digestIsOfBothSigns();
    }

    private static void digestIsOfBothSigns() {
        boolean below = false;
        boolean above = false;
        RunicSticks x = new RunicSticks();
        for (int years = 50; years < 90; years++) {
            x.set(years);
            below = below || x.digest() < 0;
            above = above || x.digest() > 0;
        }
        check.same("a hash below 0, and one above", below && above ? 1 : 0, 1);
    }

    /** The range from 50 on in 20 years, whose first or last year, or one beside them, has the edge of it. */
    private static void digestTakesTheRangeAsItStands() {
        String[] texts = {"m0,0", "m0,1", "m0,2", "m0,4", "m1,3", "m4,2", "m9,2", "m12,1"};
        int[] slips = {-2, -3, -2, -3, 5, 5, 5, 5};
        int[][] due = {{4, 35}, {1, 32}, {3, 34}, {1, 32}, {5, 36}, {7, 36}, {15, 39}, {15, 45}};
        for (int i = 0; i < texts.length; i++) {
            RunicSticks x = Check.calendar(texts[i], slips[i], slips[i], slips[i]);
            check.same("earliest of " + texts[i], x.range(0, 50, 20, false), due[i][0]);
            check.same("latest of " + texts[i], x.range(0, 50, 20, true), due[i][1]);
            digestIs("digest with " + texts[i], x, valuesOfOneFeast(x, due[i][0], due[i][1]));
        }
    }

    private static long[] valuesOfOneFeast(RunicSticks x, int earliest, int latest) {
        java.util.stream.LongStream.Builder values = java.util.stream.LongStream.builder();
        for (int what = 0; what <= 7; what++) {
            values.add(x.count(what));
        }
        for (int what = 0; what <= 3; what++) {
            values.add(x.feast(0, what));
        }
        int[] years = {0, 100, 777};
        for (int year : years) {
            for (int carver = 0; carver <= 2; carver++) {
                values.add(x.when(0, year, carver, true));
                values.add(x.when(0, year, carver, false));
            }
            values.add(x.settled(0, year));
        }
        for (int year : years) {
            values.add(x.quarrels(year));
            for (int carver = 0; carver <= 2; carver++) {
                values.add(x.moved(year, carver));
            }
        }
        values.add(x.alike(20)).add(x.peace(1, 100)).add(earliest).add(latest);
        return values.add(Double.doubleToLongBits(1.0)).add(0).build().toArray();
    }
}
