/**
 * The arguments of every call: the least and the greatest value that the document allows, those beside them, and the
 * least and the greatest int, all of them together with all those of the call's other arguments.
 */
public final class ArgumentEdgesTest {
    private static final Check check = new Check();
    private static final Class<IndexOutOfBoundsException> NO_SUCH = IndexOutOfBoundsException.class;
    private static final Class<IllegalArgumentException> OUT_OF_RANGE = IllegalArgumentException.class;
    private static final String[] FEASTS = {"m0,5^1", "d12", "a0+7", "w80,0", "d12^9", "m300,6", "d365", "a4-12", "d364",
        "a8+1"};

    private interface Use {
        void on(RunicSticks x, int[] given);
    }

    private record Argument(int least, int most, Class<? extends RuntimeException> due) {
        boolean allows(int value) {
            return value >= least && value <= most;
        }

        int[] edges() {
            return new int[] {least, most, least - 1, most + 1, Integer.MIN_VALUE, Integer.MAX_VALUE};
        }
    }

    private static Argument upTo(int least, int most) {
        return new Argument(least, most, OUT_OF_RANGE);
    }

    private static final Argument YEAR = upTo(0, 999);
    private static final Argument CARVER = upTo(0, 2);

    private final int feasts;
    private final int sticks;

    private ArgumentEdgesTest(int feasts, int sticks) {
        this.feasts = feasts;
        this.sticks = sticks;
    }

    public static void main(String[] args) {
        for (int[] size : new int[][] {{0, 0}, {1, 1}, {10, 5}}) {
            ArgumentEdgesTest test = new ArgumentEdgesTest(size[0], size[1]);
            test.changes();
            test.looks();
            test.whatWouldBe();
        }
        appendToAFullBuffer();
        check.finish("ArgumentEdgesTest");
    }

    private RunicSticks made() {
        RunicSticks x = new RunicSticks();
        x.teach(1, -5);
        x.teach(2, 5);
        if (feasts > 0) {
            Check.proclaim(x, String.join(";", java.util.Arrays.copyOf(FEASTS, feasts)));
        }
        for (int stick = 0; stick < sticks; stick++) {
            x.carve(stick * 111, stick % 3);
        }
        Check.type(x, "d1;x");
        return x;
    }

    private Argument feastNumber() {
        return new Argument(0, feasts - 1, NO_SUCH);
    }

    private Argument stickNumber() {
        return new Argument(0, sticks - 1, NO_SUCH);
    }

    private void changes() {
        edges("rank", (x, a) -> x.rank(a[0], a[1]), feastNumber(), upTo(0, 9));
        edges("teach", (x, a) -> x.teach(a[0], a[1]), CARVER, upTo(-5, 5));
        edges("carve", (x, a) -> x.carve(a[0], a[1]), YEAR, CARVER);
        edges("burn", (x, a) -> x.burn(a[0]), stickNumber());
        edges("set", (x, a) -> x.set(a[0]), upTo(50, 400));
        edges("append", (x, a) -> x.append(a[0]), upTo(33, 126));
    }

    private void looks() {
        edges("day", (x, a) -> x.day(a[0], a[1], a[2]), YEAR, upTo(0, 365), upTo(0, 2));
        edges("feast", (x, a) -> x.feast(a[0], a[1]), feastNumber(), upTo(0, 3));
        edges("when, proper", (x, a) -> x.when(a[0], a[1], a[2], true), feastNumber(), YEAR, CARVER);
        edges("when, notch", (x, a) -> x.when(a[0], a[1], a[2], false), feastNumber(), YEAR, CARVER);
        edges("settled", (x, a) -> x.settled(a[0], a[1]), feastNumber(), YEAR);
        edges("quarrels", (x, a) -> x.quarrels(a[0]), YEAR);
        edges("stick", (x, a) -> x.stick(a[0], a[1]), stickNumber(), upTo(0, 13));
        edges("count", (x, a) -> x.count(a[0]), upTo(0, 7));
    }

    private void whatWouldBe() {
        edges("range, latest", (x, a) -> x.range(a[0], a[1], a[2], true), feastNumber(), YEAR, upTo(1, 40));
        edges("range, earliest", (x, a) -> x.range(a[0], a[1], a[2], false), feastNumber(), YEAR, upTo(1, 40));
        edges("alike", (x, a) -> x.alike(a[0]), YEAR);
        edges("peace", (x, a) -> x.peace(a[0], a[1]), CARVER, YEAR);
        edges("moved", (x, a) -> x.moved(a[0], a[1]), YEAR, CARVER);
    }

    private void edges(String name, Use use, Argument... arguments) {
        given(name, use, arguments, new int[arguments.length], 0);
    }

    private void given(String name, Use use, Argument[] arguments, int[] values, int at) {
        if (at < arguments.length) {
            for (int value : arguments[at].edges()) {
                values[at] = value;
                given(name, use, arguments, values, at + 1);
            }
            return;
        }
        String what = feasts + " feasts: " + name + java.util.Arrays.toString(values);
        RunicSticks x = made();
        Class<? extends RuntimeException> due = dueOf(arguments, values);
        if (due == null) {
            check.same(what, Check.thrownBy(() -> use.on(x, values)), "nothing");
        } else {
            check.refusesLikeTwin(what, x, made(), due, () -> use.on(x, values));
        }
    }

    /** Where both are due, IndexOutOfBoundsException is named first by every call that may throw both. */
    private static Class<? extends RuntimeException> dueOf(Argument[] arguments, int[] values) {
        Class<? extends RuntimeException> due = null;
        for (int i = 0; i < arguments.length; i++) {
            if (!arguments[i].allows(values[i]) && due != NO_SUCH) {
                due = arguments[i].due;
            }
        }
        return due;
    }

    private static RunicSticks full() {
        RunicSticks x = Check.calendar("d5");
        Check.type(x, "d7;".repeat(20));
        return x;
    }

    /** append alone names IllegalArgumentException first. */
    private static void appendToAFullBuffer() {
        for (int code : new int[] {33, 126}) {
            RunicSticks x = full();
            check.refusesLikeTwin("append " + code, x, full(), IllegalStateException.class, () -> x.append(code));
        }
        for (int code : new int[] {32, 127, 0, -1, Integer.MIN_VALUE, Integer.MAX_VALUE}) {
            RunicSticks x = full();
            check.refusesLikeTwin("append " + code, x, full(), OUT_OF_RANGE, () -> x.append(code));
        }
    }
}
