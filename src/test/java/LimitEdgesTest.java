/** What the calendar holds: nothing, as much as it may, and one more; and the 512 calls. */
public final class LimitEdgesTest {
    private static final Check check = new Check();
    private static final String TEN = "d0;d1;d2;d3;d4;d5;d6;d7;d8;d9";
    private static final Class<IndexOutOfBoundsException> NO_SUCH = IndexOutOfBoundsException.class;
    private static final Class<IllegalStateException> NONE_LEFT = IllegalStateException.class;

    public static void main(String[] args) {
        noFeast();
        noFeastInASearch();
        oneFeast();
        tenFeasts();
        oneFeastMoreThanTen();
        theTenthFeastNamesAnother();
        feastsUpToTheFirstThatCannotBeAdded();
        forgetDownToNone();
        noStick();
        fiveSticks();
        oneStickMoreThanFive();
        burnDownToNone();
        noSavedState();
        sixSavedStates();
        oneSavedStateMoreThanSix();
        everyUndoableCallSaves();
        noOtherCallSaves();
        emptyBuffer();
        fullBuffer();
        fullBufferOfFeasts();
        theLastOf512Calls();
        check.finish("LimitEdgesTest");
    }

    // ---- feasts

    private static void noFeast() {
        RunicSticks x = new RunicSticks();
        check.same("no feast: count(0)", x.count(0), 0);
        check.refusesLikeTwin("no feast: forget", x, new RunicSticks(), NONE_LEFT, x::forget);
        check.refuses("no feast: rank", x, NO_SUCH, () -> x.rank(0, 0));
        check.refuses("no feast: feast", x, NO_SUCH, () -> x.feast(0, 0));
        check.refuses("no feast: when", x, NO_SUCH, () -> x.when(0, 0, 0, true));
        check.refuses("no feast: settled", x, NO_SUCH, () -> x.settled(0, 0));
        check.refuses("no feast: range", x, NO_SUCH, () -> x.range(0, 0, 1, true));
        check.same("no feast: carve", x.carve(0, 0), 0);
        check.same("no feast: its notches", x.stick(0, 2), 0);
        check.same("no feast: none is stale", x.stick(0, 3), 0);
        check.same("no feast: the notch of the feast 0", x.stick(0, 4), -1);
        check.same("no feast: the notch of the feast 9", x.stick(0, 13), -1);
        check.same("no feast: freshShare", x.freshShare(), 1.0);
    }

    private static void noFeastInASearch() {
        RunicSticks x = new RunicSticks();
        check.same("no feast: day", x.day(0, 0, 2), -1);
        check.same("no feast: quarrels", x.quarrels(0), 0);
        check.same("no feast: moved", x.moved(999, 2), 0);
        check.same("no feast: alike", x.alike(0), 28);
        check.same("no feast: peace", x.peace(0, 0), 5);
    }

    private static void oneFeast() {
        RunicSticks x = new RunicSticks();
        check.same("one: proclaim", Check.proclaim(x, "d0"), 1);
        check.same("one: count(0)", x.count(0), 1);
        check.same("one: feast(0, 2)", x.feast(0, 2), 0);
        check.refuses("one: feast(1, 0)", x, NO_SUCH, () -> x.feast(1, 0));
    }

    private static void tenFeasts() {
        RunicSticks x = new RunicSticks();
        check.same("ten: proclaim", Check.proclaim(x, TEN), 10);
        check.same("ten: count(0)", x.count(0), 10);
        for (int feast = 0; feast < 10; feast++) {
            check.same("ten: feast(" + feast + ", 2)", x.feast(feast, 2), feast);
            check.same("ten: rank of " + feast, x.rank(feast, 9), 0);
        }
        check.refuses("ten: feast(10, 0)", x, NO_SUCH, () -> x.feast(10, 0));
        check.refuses("ten: rank(10, 0)", x, NO_SUCH, () -> x.rank(10, 0));
        check.same("ten: carve", x.carve(0, 0), 10);
        check.same("ten: day 9", x.day(0, 9, 2), 9);
    }

    private static void oneFeastMoreThanTen() {
        RunicSticks x = new RunicSticks();
        check.same("eleven at once", Check.proclaim(x, TEN + ";d10"), 10);
        check.same("the eleventh is not there", x.count(0), 10);
        check.same("the tenth is not replaced", x.feast(9, 2), 9);
        check.same("one more", Check.proclaim(x, "d10"), 0);
        check.same("still ten", x.count(0), 10);
        check.same("the buffer is cleared", x.clearBuffer(), 0);
        check.same("none is added, but the state is saved", x.count(7), 2);
        check.same("undo", x.undo(), 1);
        check.same("ten before it too", x.count(0), 10);
        RunicSticks nine = Check.calendar(TEN.substring(0, TEN.length() - 3));
        check.same("two more than nine", Check.proclaim(nine, "w0,1;w0,2"), 1);
        check.same("the first of them", nine.feast(9, 3), 1);
    }

    private static void theTenthFeastNamesAnother() {
        String nine = TEN.substring(0, TEN.length() - 2);
        RunicSticks x = new RunicSticks();
        check.same("the tenth names the ninth", Check.proclaim(x, nine + "a8+1"), 10);
        check.same("the other feast", x.feast(9, 3), 8);
        check.same("its proper day", x.when(9, 0, 0, true), 9);
        RunicSticks itself = new RunicSticks();
        check.same("the tenth names itself", Check.proclaim(itself, nine + "a9+1"), 9);
        check.same("there are nine", itself.count(0), 9);
        RunicSticks eleventh = Check.calendar(TEN);
        check.same("the eleventh names a lower one", Check.proclaim(eleventh, "a9+1"), 0);
        RunicSticks first = new RunicSticks();
        check.same("the first names itself", Check.proclaim(first, "a0+1"), 0);
        check.same("the second names the first", Check.proclaim(first, "d0;a0+1"), 2);
        check.same("the third names itself", Check.proclaim(first, "a2+1"), 0);
        check.same("the third names the second", Check.proclaim(first, "a1+1"), 1);
    }

    private static void feastsUpToTheFirstThatCannotBeAdded() {
        RunicSticks x = new RunicSticks();
        check.same("the first cannot be added", Check.proclaim(x, "a1+0;d1;d2"), 0);
        check.same("nor are those behind it", x.count(0), 0);
        check.same("the last cannot be added", Check.proclaim(x, "d1;a0-0;a2+0"), 2);
        check.same("the one in the middle cannot", Check.proclaim(x, "a1+90;a9-90;a0+1"), 1);
        check.same("three are there", x.count(0), 3);
        check.same("the buffer is cleared", x.clearBuffer(), 0);
        check.same("each call saves one state", x.count(7), 3);
        x.undo();
        check.same("one undo takes back one call", x.count(0), 2);
        x.undo();
        check.same("also if it has added two", x.count(0), 0);
    }

    private static void forgetDownToNone() {
        RunicSticks x = Check.calendar(TEN);
        for (int left = 9; left >= 0; left--) {
            check.same("forget", x.forget(), left);
            check.same("there are then", x.count(0), left);
        }
        RunicSticks twin = Check.calendar(TEN);
        for (int left = 9; left >= 0; left--) {
            twin.forget();
        }
        check.refusesLikeTwin("forget of none", x, twin, NONE_LEFT, x::forget);
    }

    // ---- sticks

    private static RunicSticks withSticks(int... years) {
        RunicSticks x = Check.calendar("d7");
        for (int year : years) {
            x.carve(year, year % 3);
        }
        return x;
    }

    private static void sticksAre(String name, RunicSticks x, int... years) {
        check.same(name + ": count(1)", x.count(1), years.length);
        for (int stick = 0; stick < years.length; stick++) {
            check.same(name + ": year of " + stick, x.stick(stick, 0), years[stick]);
            check.same(name + ": carver of " + stick, x.stick(stick, 1), years[stick] % 3);
            check.same(name + ": notch of " + stick, x.stick(stick, 4), 7);
        }
        int none = years.length;
        check.refuses(name + ": one more", x, NO_SUCH, () -> x.stick(none, 0));
        check.refuses(name + ": burn one more", x, NO_SUCH, () -> x.burn(none));
    }

    private static void noStick() {
        RunicSticks x = withSticks();
        sticksAre("no stick", x);
        check.same("no stick: count(6)", x.count(6), 0);
        check.same("no stick: freshShare", x.freshShare(), 1.0);
        check.refusesLikeTwin("no stick: burn", x, withSticks(), NO_SUCH, () -> x.burn(0));
    }

    private static void fiveSticks() {
        RunicSticks x = withSticks(0, 1, 2, 998, 999);
        sticksAre("five sticks", x, 999, 998, 2, 1, 0);
        check.refusesLikeTwin("five sticks: burn(5)", x, withSticks(0, 1, 2, 998, 999), NO_SUCH, () -> x.burn(5));
    }

    private static void oneStickMoreThanFive() {
        RunicSticks x = withSticks(0, 1, 2, 998, 999, 500);
        sticksAre("six carved", x, 500, 999, 998, 2, 1);
        check.same("undo", x.undo(), 5);
        sticksAre("the burned one is back", x, 999, 998, 2, 1, 0);
        sticksAre("ten carved", withSticks(1, 2, 3, 4, 5, 6, 7, 8, 9, 10), 10, 9, 8, 7, 6);
    }

    private static void burnDownToNone() {
        RunicSticks x = withSticks(10, 20, 30, 40, 50);
        check.same("burn the oldest of five", x.burn(4), 10);
        sticksAre("four are left", x, 50, 40, 30, 20);
        check.same("burn the latest of four", x.burn(0), 50);
        check.same("burn in the middle", x.burn(1), 30);
        sticksAre("two are left", x, 40, 20);
        check.same("burn", x.burn(1), 20);
        check.same("burn the last one", x.burn(0), 40);
        sticksAre("none is left", x);
        x.carve(60, 0);
        sticksAre("one again", x, 60);
    }

    // ---- saved states

    private static RunicSticks withSettings(int from, int to) {
        RunicSticks x = new RunicSticks();
        for (int years = from; years <= to; years++) {
            x.set(years);
        }
        return x;
    }

    private static void noSavedState() {
        RunicSticks x = new RunicSticks();
        Check.type(x, "d1");
        RunicSticks twin = new RunicSticks();
        Check.type(twin, "d1");
        check.same("none saved: count(7)", x.count(7), 0);
        check.refusesLikeTwin("none saved: undo", x, twin, NONE_LEFT, x::undo);
    }

    private static void undoesTo(String name, RunicSticks x, int saved, int latest) {
        check.same(name + ": count(7)", x.count(7), saved);
        for (int left = saved - 1; left >= 0; left--) {
            check.same(name + ": undo", x.undo(), left);
            check.same(name + ": the setting", x.count(5), latest - (saved - 1 - left));
            check.same(name + ": count(7)", x.count(7), left);
        }
        check.refuses(name + ": undo of none", x, NONE_LEFT, x::undo);
    }

    private static void sixSavedStates() {
        RunicSticks x = withSettings(51, 56);
        check.same("six: count(7)", x.count(7), 6);
        for (int left = 5; left >= 1; left--) {
            check.same("six: undo", x.undo(), left);
            check.same("six: the setting", x.count(5), 50 + left);
        }
        check.same("six: the last undo", x.undo(), 0);
        check.same("six: the first setting", x.count(5), 300);
        check.refuses("six: undo of none", x, NONE_LEFT, x::undo);
    }

    private static void oneSavedStateMoreThanSix() {
        undoesTo("seven", withSettings(51, 57), 6, 56);
        undoesTo("thirteen", withSettings(51, 63), 6, 62);
        RunicSticks x = withSettings(51, 57);
        x.undo();
        x.undo();
        x.set(56);
        x.set(57);
        check.same("six again", x.count(7), 6);
        x.set(58);
        undoesTo("six again and one more", x, 6, 57);
    }

    private static void saves(String name, RunicSticks x, Check.Call call) {
        long before = x.digest();
        int saved = x.count(7);
        check.same(name, Check.thrownBy(call), "nothing");
        check.same(name + " saves a state", x.count(7), saved + 1);
        check.same("undo of " + name, x.undo(), saved);
        check.same("undo of " + name + ": digest", x.digest(), before);
    }

    private static void everyUndoableCallSaves() {
        RunicSticks x = Check.calendar("d1^4");
        x.carve(0, 0);
        saves("proclaim", x, () -> Check.proclaim(x, "d2"));
        saves("proclaim of none", x, () -> Check.proclaim(x, "a1+0"));
        saves("forget", x, x::forget);
        saves("rank", x, () -> x.rank(0, 5));
        saves("rank, as it was", x, () -> x.rank(0, 4));
        saves("teach", x, () -> x.teach(0, 1));
        saves("teach, as it was", x, () -> x.teach(0, 0));
        saves("carve", x, () -> x.carve(1, 1));
        saves("burn", x, () -> x.burn(0));
        saves("set", x, () -> x.set(299));
        saves("set, as it was", x, () -> x.set(300));
    }

    private static void noOtherCallSaves() {
        RunicSticks x = Check.calendar("d1");
        x.carve(0, 0);
        x.append('d');
        x.clearBuffer();
        x.firstError();
        x.day(0, 0, 0);
        x.feast(0, 0);
        x.when(0, 0, 0, true);
        x.settled(0, 0);
        x.quarrels(0);
        x.stick(0, 0);
        x.range(0, 0, 40, true);
        x.alike(0);
        x.peace(0, 0);
        x.moved(0, 0);
        x.freshShare();
        x.digest();
        check.same("looks and the buffer save nothing", x.count(7), 2);
        check.refuses("a refused rank", x, IllegalArgumentException.class, () -> x.rank(0, 10));
        check.refuses("a refused proclaim", x, IllegalArgumentException.class, x::proclaim);
        check.same("a call that throws saves nothing", x.count(7), 2);
    }

    // ---- the buffer

    private static void emptyBuffer() {
        RunicSticks x = new RunicSticks();
        check.same("empty: clearBuffer", x.clearBuffer(), 0);
        check.same("empty: firstError", x.firstError(), 0);
        RunicSticks twin = new RunicSticks();
        check.refusesLikeTwin("empty: proclaim", x, twin, IllegalArgumentException.class, x::proclaim);
        check.same("the first character", x.append(33), 1);
        check.same("clearBuffer of one", x.clearBuffer(), 1);
        check.same("empty again: clearBuffer", x.clearBuffer(), 0);
    }

    private static RunicSticks withSigns(String text) {
        RunicSticks x = new RunicSticks();
        Check.type(x, text);
        return x;
    }

    private static void fullBuffer() {
        RunicSticks x = withSigns("~".repeat(59));
        check.same("the 60th character", x.append('!'), 60);
        check.refuses("the 61st character", x, NONE_LEFT, () -> x.append('!'));
        RunicSticks twin = withSigns("~".repeat(59) + "!");
        check.refusesLikeTwin("the 61st character", x, twin, NONE_LEFT, () -> x.append('~'));
        check.same("clearBuffer of 60", x.clearBuffer(), 60);
        check.same("one character again", x.append('~'), 1);
        RunicSticks last = withSigns("d1;".repeat(19) + "d1x");
        check.same("an error at the last of 60", last.firstError(), 59);
        RunicSticks none = withSigns("d1;".repeat(20));
        check.same("no error in 60", none.firstError(), 60);
    }

    private static void fullBufferOfFeasts() {
        String text = "w365,6^9;w365,6^9;w365,6^9;w365,6^9;w365,6^9;w365,6^9;d10^10".substring(0, 59) + "1";
        RunicSticks wrong = withSigns(text);
        check.same("60 characters that tell no feasts", wrong.firstError(), 59);
        check.refuses("their proclaim", wrong, IllegalArgumentException.class, wrong::proclaim);
        check.same("they are kept", wrong.clearBuffer(), 60);
        RunicSticks x = withSigns("w365,6^9;w365,6^9;w365,6^9;w365,6^9;w365,6^9;w365,6^9;d100^8");
        check.same("60 characters that tell feasts", x.proclaim(), 7);
        check.same("the last rank", x.feast(6, 1), 8);
        check.same("the buffer is empty then", x.clearBuffer(), 0);
    }

    // ---- the calls

    private static void theLastOf512Calls() {
        RunicSticks x = new RunicSticks();
        RunicSticks twin = new RunicSticks();
        for (int call = 1; call <= 511; call++) {
            x.carve(call, call % 3);
            if (call > 500) {
                twin.carve(call, call % 3);
            }
        }
        check.same("the call 512", x.digest(), twin.digest());
        RunicSticks undone = new RunicSticks();
        for (int call = 1; call <= 255; call++) {
            undone.set(50 + call);
            undone.undo();
        }
        check.same("the call 511", undone.count(5), 300);
        check.same("the call 512", undone.digest(), new RunicSticks().digest());
    }
}
