/** Promises 1 to 4: a new object, proclaim, forget, rank. */
public final class FeastsTest {
    private static final Check check = new Check();

    public static void main(String[] args) {
        newObject();
        proclaimAddsFeastsInTheirOrder();
        proclaimStopsAtTheFirstThatCannotBeAdded();
        proclaimRefusesOtherTexts();
        forget();
        rank();
        check.finish("FeastsTest");
    }

    private static void newObject() {
        RunicSticks x = new RunicSticks();
        int[] due = {0, 0, 5, 5, 5, 300, 0, 0};
        for (int what = 0; what < due.length; what++) {
            check.same("new: count(" + what + ")", x.count(what), due[what]);
        }
        check.same("new: firstError", x.firstError(), 0);
        check.same("new: clearBuffer", x.clearBuffer(), 0);
        check.same("new: freshShare", x.freshShare(), 1.0);
        check.same("NONE", RunicSticks.NONE, -1);
        check.refuses("new: feast(0, 0)", x, IndexOutOfBoundsException.class, () -> x.feast(0, 0));
        check.refuses("new: stick(0, 0)", x, IndexOutOfBoundsException.class, () -> x.stick(0, 0));
    }

    private static void feastIs(RunicSticks x, int feast, int rule, int rank, int day, int other) {
        String name = "feast(" + feast + ", ";
        check.same(name + "0)", x.feast(feast, 0), rule);
        check.same(name + "1)", x.feast(feast, 1), rank);
        check.same(name + "2)", x.feast(feast, 2), day);
        check.same(name + "3)", x.feast(feast, 3), other);
    }

    private static void proclaimAddsFeastsInTheirOrder() {
        RunicSticks x = new RunicSticks();
        check.same("proclaim 4", Check.proclaim(x, "d365;w0,6^9;m80,0^0;a2-90^3"), 4);
        feastIs(x, 0, 0, 0, 365, -1);
        feastIs(x, 1, 1, 9, 0, 6);
        feastIs(x, 2, 2, 0, 80, 0);
        feastIs(x, 3, 3, 3, 0, 2);
        check.same("proclaim clears the buffer", x.clearBuffer(), 0);
        check.same("proclaim once more", Check.proclaim(x, "a3+90;a0-0;a0+7"), 3);
        feastIs(x, 4, 3, 0, 180, 3);
        feastIs(x, 5, 3, 0, 90, 0);
        feastIs(x, 6, 3, 0, 97, 0);
        check.same("saved by two calls", x.count(7), 2);
        check.same("undo", x.undo(), 1);
        check.same("feasts after undo", x.count(0), 4);
    }

    private static void proclaimStopsAtTheFirstThatCannotBeAdded() {
        RunicSticks x = new RunicSticks();
        check.same("names itself", Check.proclaim(x, "a0+1;d5"), 0);
        check.same("saved though none is added", x.count(7), 1);
        check.same("cleared though none is added", x.firstError(), 0);
        check.same("names a later one", Check.proclaim(x, "d1;a2+0;d2"), 1);
        check.same("names the one just added", Check.proclaim(x, "d2;a1+3;a9-1;a0+1"), 2);
        feastIs(x, 2, 3, 0, 93, 1);
        check.same("up to ten", Check.proclaim(x, "d0;d1;d2;d3;d4;d5;d6;d7;d8"), 7);
        check.same("ten", x.count(0), 10);
        check.same("the tenth", x.feast(9, 2), 6);
        check.same("beyond ten", Check.proclaim(x, "d0"), 0);
        check.same("saved states", x.count(7), 5);
    }

    private static void proclaimRefusesOtherTexts() {
        String[] texts = {"", "d", "d1;", "w5", "w5,", "m", "m9,", "a", "a0", "a0+", "d1^", ";d1", "d1;;d2", "d01",
            "d366", "w1,7", "a0+91", "d1^10", "d1^5^5", "D1", "x", "d1,1", "a0*1", "d-1", "a0+-1", "d5d6", "w5,5,5"};
        for (String text : texts) {
            RunicSticks x = Check.calendar("d7");
            Check.type(x, text);
            check.refuses("proclaim of " + text, x, IllegalArgumentException.class, x::proclaim);
            check.same("the buffer is kept: " + text, x.clearBuffer(), text.length());
        }
    }

    private static void forget() {
        RunicSticks x = Check.calendar("d1;d2;a0+5");
        check.same("forget", x.forget(), 2);
        check.same("forget", x.forget(), 1);
        check.refuses("feast(1, 0)", x, IndexOutOfBoundsException.class, () -> x.feast(1, 0));
        check.same("the first is left", x.feast(0, 2), 1);
        check.same("forget", x.forget(), 0);
        check.refuses("forget without feasts", x, IllegalStateException.class, x::forget);
        check.same("saved", x.count(7), 4);
        x.undo();
        x.undo();
        check.same("undo of forget", x.count(0), 2);
        check.same("a forgotten number is given again", Check.proclaim(x, "w9,1"), 1);
        feastIs(x, 2, 1, 0, 9, 1);
    }

    private static void rank() {
        RunicSticks x = Check.calendar("d10^4;d10");
        check.same("rank", x.rank(0, 0), 4);
        check.same("rank", x.rank(1, 9), 0);
        check.same("rank, the same one", x.rank(1, 9), 9);
        check.same("the rank is changed", x.feast(0, 1), 0);
        check.same("the greater rank goes first", x.when(0, 5, 0, false), 11);
        check.same("saved", x.count(7), 4);
        x.undo();
        x.undo();
        check.same("undo of rank", x.feast(1, 1), 0);
        check.refuses("rank(2, 5)", x, IndexOutOfBoundsException.class, () -> x.rank(2, 5));
        check.refuses("rank(-1, 5)", x, IndexOutOfBoundsException.class, () -> x.rank(-1, 5));
        check.refuses("rank(0, 10)", x, IllegalArgumentException.class, () -> x.rank(0, 10));
        check.refuses("rank(0, -1)", x, IllegalArgumentException.class, () -> x.rank(0, -1));
        check.refuses("rank(2, 10)", x, IndexOutOfBoundsException.class, () -> x.rank(2, 10));
    }
}
