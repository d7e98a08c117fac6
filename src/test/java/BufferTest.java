/** Promises 9 to 12: append, clearBuffer, firstError, undo. */
public final class BufferTest {
    private static final Check check = new Check();

    public static void main(String[] args) {
        append();
        clearBuffer();
        firstError();
        firstErrorOfLongTexts();
        undo();
        undoRestoresAll();
        undoLeavesTheBuffer();
        check.finish("BufferTest");
    }

    private static void append() {
        RunicSticks x = new RunicSticks();
        check.same("append", x.append('!'), 1);
        check.same("append", x.append('~'), 2);
        for (int code : new int[] {32, 127, 0, -1, Integer.MIN_VALUE, Integer.MAX_VALUE}) {
            check.refuses("append " + code, x, IllegalArgumentException.class, () -> x.append(code));
        }
        for (int length = 3; length <= 60; length++) {
            check.same("append", x.append('d'), length);
        }
        check.refuses("append to 60", x, IllegalStateException.class, () -> x.append('d'));
        check.refuses("append of 32 to 60", x, IllegalArgumentException.class, () -> x.append(32));
        check.same("append saves nothing", x.count(7), 0);
    }

    private static void clearBuffer() {
        RunicSticks x = new RunicSticks();
        Check.type(x, "d1;");
        check.same("clearBuffer", x.clearBuffer(), 3);
        check.same("clearBuffer", x.clearBuffer(), 0);
        check.same("append after it", x.append('w'), 1);
        check.same("clearBuffer saves nothing", x.count(7), 0);
    }

    private static void errorIs(String text, int due) {
        RunicSticks x = new RunicSticks();
        Check.type(x, text);
        check.same("firstError of " + text, x.firstError(), due);
        check.same("firstError keeps " + text, x.clearBuffer(), text.length());
    }

    /** Each text has its first error at its last character. */
    private static void firstError() {
        String[] wrong = {"x", ";", "0", "^", "D", "dx", "d;", "d,", "d00", "d01", "d366", "d370", "d400", "d1000",
            "d3650", "d5,", "d5+", "d5^^", "d5^x", "d5^50", "d5^5^", "d5;;", "d5;5", "w;", "w5;", "w5^", "w5,7",
            "w5,,", "w5,66", "w5,6,", "w366", "m5;", "m5,9", "m00", "m5,0^a", "aa", "a;", "a10", "a1;", "a1+;",
            "a1++", "a1+00", "a1+91", "a1-91", "a1+100", "a1+900", "a1+5+", "a1,", "a0-1,", "d1;w2,3;a0+1^4;q"};
        for (String text : wrong) {
            errorIs(text, text.length() - 1);
            errorIs(text + "!!", text.length() - 1);
        }
        String[] right = {"", "d", "d0", "d9", "d36", "d365", "d300^", "d1^0", "d1^9;", "w0", "w365,", "w365,0", "m1,6^",
            "a", "a9", "a9+", "a9-", "a9-0", "a0+90", "a0-90^9;a0+9;m12,3;d99"};
        for (String text : right) {
            errorIs(text, text.length());
        }
    }

    private static void firstErrorOfLongTexts() {
        // a text may go on beyond the 60 characters
        String twenty = "d0;".repeat(20);
        errorIs(twenty, 60);
        errorIs(twenty.substring(0, 59) + "^", 60);
        errorIs(twenty.substring(0, 59) + "x", 59);
        RunicSticks x = new RunicSticks();
        check.same("twenty feasts, ten are added", Check.proclaim(x, twenty.substring(0, 59)), 10);
    }

    private static void undo() {
        RunicSticks x = new RunicSticks();
        check.refuses("undo of a new one", x, IllegalStateException.class, x::undo);
        x.set(100);
        Check.proclaim(x, "d5;d6");
        x.rank(0, 3);
        x.forget();
        x.teach(1, 2);
        x.carve(4, 1);
        check.same("six are saved", x.count(7), 6);
        x.burn(0);
        check.same("the oldest is dropped", x.count(7), 6);
        check.same("undo of burn", x.undo(), 5);
        check.same("a stick again", x.stick(0, 0), 4);
        check.same("undo of carve", x.undo(), 4);
        check.same("no stick", x.count(1), 0);
        check.same("the slip is still there", x.count(3), 7);
        check.same("undo of teach", x.undo(), 3);
        check.same("the slip is not", x.count(3), 5);
        check.same("undo of forget", x.undo(), 2);
        check.same("two feasts", x.count(0), 2);
        check.same("undo of rank", x.undo(), 1);
        check.same("its rank", x.feast(0, 1), 0);
        check.same("undo of proclaim", x.undo(), 0);
        check.same("no feast", x.count(0), 0);
        check.same("set is not undone", x.count(5), 100);
        check.refuses("undo of none", x, IllegalStateException.class, x::undo);
        x.set(60);
        x.set(70);
        check.same("undo", x.undo(), 1);
        x.set(80);
        check.same("undo goes back by one", x.undo(), 1);
        check.same("the setting", x.count(5), 60);
    }

    /** Some calls, and as many undos: then the digest, which tells the whole state, is as it was. */
    private static void undone(String name, RunicSticks x, Check.Call... calls) {
        long before = x.digest();
        for (Check.Call call : calls) {
            call.run();
        }
        for (int i = 0; i < calls.length; i++) {
            x.undo();
        }
        check.same("undo of " + name, x.digest(), before);
    }

    private static void undoRestoresAll() {
        RunicSticks x = Check.calendar("m0,5^1;a0+7;w80,0");
        x.carve(0, 2);
        undone("feasts", x, x::forget, x::forget, x::forget, () -> Check.proclaim(x, "d9;w8,3;a1-7^5"));
        undone("a rule", x, x::forget, x::forget, () -> Check.proclaim(x, "d9"));
        undone("another feast", x, x::forget, () -> Check.proclaim(x, "a0+80"), x::forget,
            () -> Check.proclaim(x, "a1+80"));
        undone("ranks", x, () -> x.rank(0, 9), () -> x.rank(1, 8), () -> x.rank(2, 7));
        undone("slips", x, () -> x.teach(0, 5), () -> x.teach(1, -5), () -> x.teach(2, 1), () -> x.set(50));
        undone("sticks", x, () -> x.carve(4, 1), () -> x.burn(1), () -> x.burn(0));
        undone("a stick's feasts", x, () -> x.burn(0), x::forget, () -> x.rank(1, 3), () -> x.carve(777, 0));
        RunicSticks stale = Check.calendar("d1;d1;d1");
        stale.carve(0, 0);
        stale.rank(2, 9);
        undone("a stick that tells fewer feasts", stale, () -> stale.burn(0), stale::forget, () -> stale.carve(0, 0));
        undone("nothing changed", x, () -> x.teach(0, 0), () -> x.set(300), () -> x.rank(0, 1));
        undone("none added", x, () -> Check.proclaim(x, "a9+1"));
    }

    private static void undoLeavesTheBuffer() {
        RunicSticks x = new RunicSticks();
        x.append('d');
        x.set(100);
        x.append('8');
        x.undo();
        check.same("the buffer stays", x.clearBuffer(), 2);
        Check.proclaim(x, "d8");
        x.undo();
        check.same("the buffer does not come back", x.clearBuffer(), 0);
    }
}
