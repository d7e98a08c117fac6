/** Feasts as a text: where it may end, which characters may come where, and the numbers just within and too great. */
public final class TextEdgesTest {
    private static final Check check = new Check();
    private static final String DIGITS = "0123456789";

    /** Characters of a text, and all those that may be the next one. */
    private static final String[][] NEXT = {
        {"", "dwma"},
        {"d", DIGITS}, {"d0", "^;"}, {"d1", DIGITS + "^;"}, {"d9", DIGITS + "^;"}, {"d10", DIGITS + "^;"},
        {"d35", DIGITS + "^;"}, {"d36", "012345^;"}, {"d37", "^;"}, {"d40", "^;"}, {"d99", "^;"}, {"d100", "^;"},
        {"d359", "^;"}, {"d365", "^;"},
        {"w", DIGITS}, {"w0", ","}, {"w3", DIGITS + ","}, {"w29", DIGITS + ","}, {"w36", "012345,"}, {"w37", ","},
        {"w365", ","}, {"w0,", "0123456"}, {"w365,", "0123456"}, {"w36,0", "^;"}, {"w0,6", "^;"},
        {"m", DIGITS}, {"m0", ","}, {"m3", DIGITS + ","}, {"m36", "012345,"}, {"m365", ","}, {"m9,", "0123456"},
        {"m9,0", "^;"}, {"m365,6", "^;"},
        {"a", DIGITS}, {"a0", "+-"}, {"a9", "+-"}, {"a0+", DIGITS}, {"a9-", DIGITS}, {"a0+0", "^;"}, {"a0-0", "^;"},
        {"a0+1", DIGITS + "^;"}, {"a0+8", DIGITS + "^;"}, {"a0+9", "0^;"}, {"a0-9", "0^;"}, {"a5-90", "^;"},
        {"a5+10", "^;"}, {"a5+89", "^;"},
        {"d0^", DIGITS}, {"w0,0^", DIGITS}, {"a0+90^", DIGITS}, {"d0^0", ";"}, {"d0^1", ";"}, {"d0^9", ";"},
        {"m1,1^9", ";"}, {"a1-0^0", ";"},
        {"d0;", "dwma"}, {"w1,2;", "dwma"}, {"d5^9;", "dwma"}, {"a0+0;", "dwma"}, {"d3;d36", "012345^;"},
        {"a0+9;d", DIGITS}, {"d365;a1-9", "0^;"}, {"w36,1;m36", "012345,"}};

    public static void main(String[] args) {
        nextCharacters();
        onlyTheFirstErrorCounts();
        textsThatEndTooEarly();
        textsThatMayEnd();
        days();
        weekdays();
        otherFeastsAndDays();
        ranks();
        leadingZeros();
        nothingIsCarriedOver();
        check.finish("TextEdgesTest");
    }

    private static int errorOf(String text) {
        RunicSticks x = new RunicSticks();
        Check.type(x, text);
        int error = x.firstError();
        check.same("firstError keeps " + text, x.clearBuffer(), text.length());
        return error;
    }

    private static void nextCharacters() {
        for (String[] next : NEXT) {
            String text = next[0];
            check.same("firstError of " + text, errorOf(text), text.length());
            for (char c = 33; c <= 126; c++) {
                boolean fits = next[1].indexOf(c) >= 0;
                check.same("firstError of " + text + c, errorOf(text + c), fits ? text.length() + 1 : text.length());
            }
        }
    }

    private static void onlyTheFirstErrorCounts() {
        check.same("an error at the first character", errorOf("xd1"), 0);
        check.same("an error, and another one", errorOf("d1x;;"), 2);
        check.same("an error at the last character", errorOf("d1;d2;w3,7"), 9);
        check.same("what would fit if it came alone", errorOf("d01;d2"), 2);
        check.same("no error", errorOf("d1;d2;w3,6"), 10);
        check.same("no error, though proclaim cannot add it", errorOf("a9+90"), 5);
    }

    private static RunicSticks typed(String text) {
        RunicSticks x = Check.calendar("d7");
        Check.type(x, text);
        return x;
    }

    private static void notFeasts(String text) {
        RunicSticks x = typed(text);
        check.refusesLikeTwin("proclaim of " + text, x, typed(text), IllegalArgumentException.class, x::proclaim);
    }

    private static void areFeasts(String text, int due) {
        RunicSticks x = typed(text);
        check.same("proclaim of " + text, x.proclaim(), due);
        check.same("proclaim of " + text + " clears the buffer", x.clearBuffer(), 0);
    }

    private static void textsThatEndTooEarly() {
        String[] texts = {"", "d", "w", "m", "a", "w0", "w365", "m36", "w1,", "m1,", "a0", "a0+", "a0-", "d1^", "w1,1^",
            "m1,1^", "a0+1^", "d1;", "d1^1;", "w1,1;", "a0+1;", "d1;d", "d1;w1", "d1;w1,", "d1;a0", "d1;a0-", "d1;d1^"};
        for (String text : texts) {
            check.same("firstError of " + text, errorOf(text), text.length());
            notFeasts(text);
        }
    }

    private static void textsThatMayEnd() {
        for (String text : new String[] {"d0", "d365", "w0,0", "w365,6", "m0,0", "m365,6", "a0+0", "a0-90", "d0^0",
            "d365^9", "w1,1^1", "m1,1^9", "a0+90^9"}) {
            areFeasts(text, 1);
            areFeasts("d1;" + text, 2);
            areFeasts(text + ";d1", 2);
        }
    }

    private static void numberIs(String text, boolean fits, int rule, int day) {
        if (!fits) {
            notFeasts(text);
            return;
        }
        areFeasts(text, 1);
        RunicSticks x = typed(text);
        x.proclaim();
        check.same("the rule of " + text, x.feast(1, 0), rule);
        check.same("the day of " + text, x.feast(1, 2), day);
    }

    private static void days() {
        for (int day : new int[] {0, 1, 9, 10, 99, 100, 299, 300, 359, 360, 364, 365, 366, 367, 370, 399, 400, 999, 1000,
            3650, 3651}) {
            numberIs("d" + day, day <= 365, 0, day);
            numberIs("w" + day + ",0", day <= 365, 1, day);
            numberIs("m" + day + ",6", day <= 365, 2, day);
        }
        notFeasts("d4294967297");
        notFeasts("d-1");
        notFeasts("d+1");
    }

    private static void weekdays() {
        for (int weekday = 0; weekday <= 10; weekday++) {
            String text = "w5," + weekday;
            numberIs(text, weekday <= 6, 1, 5);
            if (weekday <= 6) {
                RunicSticks x = typed(text);
                x.proclaim();
                check.same("the weekday of " + text, x.feast(1, 3), weekday);
            }
        }
        notFeasts("m5,7");
        notFeasts("m5,66");
        notFeasts("m5,-1");
    }

    private static void otherFeastsAndDays() {
        for (int days : new int[] {0, 1, 9, 10, 89, 90, 91, 99, 100, 900}) {
            numberIs("a0+" + days, days <= 90, 3, 90 + days);
            numberIs("a0-" + days, days <= 90, 3, 90 - days);
        }
        notFeasts("a10+1");
        notFeasts("a:+1");
        notFeasts("a/+1");
        notFeasts("a-1+1");
        notFeasts("a0+-1");
        areFeasts("a9+1", 0);
    }

    private static void ranks() {
        for (int rank = 0; rank <= 9; rank++) {
            RunicSticks x = typed("d5^" + rank + ";d6");
            check.same("proclaim", x.proclaim(), 2);
            check.same("the rank " + rank, x.feast(1, 1), rank);
            check.same("without it 0", x.feast(2, 1), 0);
        }
        notFeasts("d5^10");
        notFeasts("d5^-1");
        notFeasts("d5^:");
        notFeasts("d5^/");
        notFeasts("d5^1^1");
    }

    private static void leadingZeros() {
        String[] texts = {"d00", "d01", "d007", "d0365", "w00,1", "w01,1", "m00,1", "m09,1", "w1,00", "w1,01", "a00+1",
            "a0+00", "a0+01", "a0-090", "d1^00", "d1^01"};
        int[] due = {2, 2, 2, 2, 2, 2, 2, 2, 4, 4, 2, 4, 4, 4, 4, 4};
        for (int i = 0; i < texts.length; i++) {
            check.same("firstError of " + texts[i], errorOf(texts[i]), due[i]);
            notFeasts(texts[i]);
        }
    }

    /** What one feast of a text tells is not there for the next one. */
    private static void nothingIsCarriedOver() {
        RunicSticks x = new RunicSticks();
        check.same("proclaim", Check.proclaim(x, "d3;a0-9^9;a0+9;w8,6^1;d365;m7,0"), 6);
        int[][] due = {{0, 0, 3, -1}, {3, 9, 81, 0}, {3, 0, 99, 0}, {1, 1, 8, 6}, {0, 0, 365, -1}, {2, 0, 7, 0}};
        for (int feast = 0; feast < due.length; feast++) {
            for (int what = 0; what < 4; what++) {
                check.same("feast(" + feast + ", " + what + ")", x.feast(feast, what), due[feast][what]);
            }
        }
    }
}
