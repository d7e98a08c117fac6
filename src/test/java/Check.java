/** Counts the answers that are due and those that are not; a test ends with finish(). */
final class Check {
    /** A call of the face that may throw. */
    interface Call {
        void run();
    }

    private int right = 0;
    private int wrong = 0;

    void same(String what, long got, long due) {
        tell(got == due, what, String.valueOf(got), String.valueOf(due));
    }

    void same(String what, double got, double due) {
        tell(got == due, what, String.valueOf(got), String.valueOf(due));
    }

    void same(String what, String got, String due) {
        tell(got.equals(due), what, got, due);
    }

    /** The call throws just this exception, and leaves the object as it was. */
    void refuses(String what, RunicSticks x, Class<? extends RuntimeException> due, Call call) {
        long before = x.digest();
        same(what, thrownBy(call), due.getSimpleName());
        same(what + " changes nothing: digest", x.digest(), before);
    }

    /** The call throws just this exception, and leaves what the object would answer, and what undo brings back. */
    void refusesLikeTwin(String what, RunicSticks x, RunicSticks twin, Class<? extends RuntimeException> due, Call call) {
        same(what, thrownBy(call), due.getSimpleName());
        sameThroughout(what + " changes nothing", x, twin);
    }

    /** Both have the same state, buffer and saved states; the saved states are used up by that. */
    void sameThroughout(String what, RunicSticks x, RunicSticks twin) {
        same(what + ": digest", x.digest(), twin.digest());
        same(what + ": firstError", x.firstError(), twin.firstError());
        for (int left = twin.count(7); left > 0; left--) {
            same(what + ": undo", x.undo(), twin.undo());
            same(what + ": digest after undo", x.digest(), twin.digest());
        }
    }

    static String thrownBy(Call call) {
        try {
            call.run();
            return "nothing";
        } catch (RuntimeException e) {
            return e.getClass().getSimpleName();
        }
    }

    void finish(String name) {
        System.out.println(name + ": " + right + " answers as due, " + wrong + " not");
        if (wrong > 0 || right == 0) {
            System.exit(1);
        }
    }

    private void tell(boolean ok, String what, String got, String due) {
        if (ok) {
            right++;
        } else {
            wrong++;
            System.out.println(what + " answered " + got + ", due is " + due);
        }
    }

    /** Appends each character of a text. */
    static void type(RunicSticks x, String text) {
        for (int i = 0; i < text.length(); i++) {
            x.append(text.charAt(i));
        }
    }

    /** Types a text and proclaims it; answers how many feasts were added. */
    static int proclaim(RunicSticks x, String text) {
        type(x, text);
        return x.proclaim();
    }

    /** A new calendar with the feasts of a text. */
    static RunicSticks calendar(String text) {
        RunicSticks x = new RunicSticks();
        proclaim(x, text);
        return x;
    }

    static RunicSticks calendar(String text, int slip0, int slip1, int slip2) {
        RunicSticks x = calendar(text);
        x.teach(0, slip0);
        x.teach(1, slip1);
        x.teach(2, slip2);
        return x;
    }
}
