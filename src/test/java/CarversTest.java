/** Promises 5 to 8: teach, carve, burn, set. */
public final class CarversTest {
    private static final Check check = new Check();

    public static void main(String[] args) {
        teach();
        carve();
        carveBurnsTheOldest();
        burn();
        set();
        check.finish("CarversTest");
    }

    private static void teach() {
        RunicSticks x = new RunicSticks();
        check.same("teach", x.teach(0, -5), 5);
        check.same("teach", x.teach(0, 5), 0);
        check.same("teach", x.teach(0, 5), 10);
        check.same("teach another", x.teach(2, 3), 5);
        check.same("slip 0", x.count(2), 10);
        check.same("slip 1", x.count(3), 5);
        check.same("slip 2", x.count(4), 8);
        check.same("saved", x.count(7), 4);
        check.same("the moon by the slip", x.day(0, 0, 1), 10);
        x.undo();
        check.same("undo of teach", x.count(4), 5);
        int[][] wrong = {{-1, 0}, {3, 0}, {0, -6}, {0, 6}, {3, 6}, {Integer.MIN_VALUE, 0}, {1, Integer.MAX_VALUE}};
        for (int[] w : wrong) {
            check.refuses("teach " + w[0] + " " + w[1], x, IllegalArgumentException.class, () -> x.teach(w[0], w[1]));
        }
    }

    private static void carve() {
        // year 0: the moon is full on the day 9 by the slip 0, on the day 14 by the slip -5
        RunicSticks x = Check.calendar("m0,5;d12;d365;d365", 0, -5, 0);
        check.same("carve, year 0", x.carve(0, 0), 3);
        check.same("carve, no day 365", x.carve(1, 2), 2);
        check.same("carve, another slip", x.carve(0, 1), 3);
        int[][] due = {{0, 1, 3, 0, 19, 12, 365, -1}, {1, 2, 2, 0}, {0, 0, 3, 0, 12, 13, 365, -1, -1, -1, -1, -1, -1, -1}};
        for (int stick = 0; stick < due.length; stick++) {
            for (int what = 0; what < due[stick].length; what++) {
                check.same("stick(" + stick + ", " + what + ")", x.stick(stick, what), due[stick][what]);
            }
        }
        check.same("carve without feasts", new RunicSticks().carve(999, 2), 0);
        int[][] wrong = {{-1, 0}, {1000, 0}, {0, -1}, {0, 3}, {Integer.MAX_VALUE, 0}, {0, Integer.MIN_VALUE}};
        for (int[] w : wrong) {
            check.refuses("carve " + w[0] + " " + w[1], x, IllegalArgumentException.class, () -> x.carve(w[0], w[1]));
        }
        x.undo();
        check.same("undo of carve", x.count(1), 2);
    }

    private static RunicSticks sticksOfYears(int... years) {
        RunicSticks x = Check.calendar("d3");
        for (int year : years) {
            x.carve(year, 0);
        }
        return x;
    }

    private static void sticksAre(RunicSticks x, int... years) {
        check.same("sticks", x.count(1), years.length);
        for (int stick = 0; stick < years.length; stick++) {
            check.same("year of stick " + stick, x.stick(stick, 0), years[stick]);
        }
    }

    private static void carveBurnsTheOldest() {
        RunicSticks x = sticksOfYears(11, 12, 13, 14, 15);
        sticksAre(x, 15, 14, 13, 12, 11);
        x.carve(16, 1);
        sticksAre(x, 16, 15, 14, 13, 12);
        check.same("its carver", x.stick(0, 1), 1);
        check.same("the one behind it", x.stick(1, 1), 0);
        x.undo();
        sticksAre(x, 15, 14, 13, 12, 11);
    }

    private static void burn() {
        RunicSticks x = sticksOfYears(11, 12, 13, 14, 15);
        check.same("burn in the middle", x.burn(2), 13);
        sticksAre(x, 15, 14, 12, 11);
        check.same("burn the oldest", x.burn(3), 11);
        sticksAre(x, 15, 14, 12);
        check.same("burn the latest", x.burn(0), 15);
        sticksAre(x, 14, 12);
        check.refuses("burn(2)", x, IndexOutOfBoundsException.class, () -> x.burn(2));
        check.refuses("burn(-1)", x, IndexOutOfBoundsException.class, () -> x.burn(-1));
        x.undo();
        sticksAre(x, 15, 14, 12);
        check.same("notches come back", x.stick(1, 4), 3);
    }

    private static void set() {
        RunicSticks x = new RunicSticks();
        check.same("the moon slips by 300", x.day(299, 0, 1), (11 * 14 + 0 + 5) % 30);
        check.same("the moon slips by 300", x.day(300, 0, 1), (11 * 15 + 1 + 5) % 30);
        check.same("set", x.set(50), 300);
        check.same("the moon slips by 50", x.day(300, 0, 1), (11 * 15 + 6 + 5) % 30);
        check.same("set", x.set(400), 50);
        check.same("the moon slips by 400", x.day(399, 0, 1), (11 * 0 + 0 + 5) % 30);
        check.same("set", x.set(400), 400);
        check.same("count(5)", x.count(5), 400);
        check.same("saved", x.count(7), 3);
        x.undo();
        x.undo();
        check.same("undo of set", x.count(5), 50);
        for (int years : new int[] {49, 401, 0, -1, Integer.MAX_VALUE, Integer.MIN_VALUE}) {
            check.refuses("set " + years, x, IllegalArgumentException.class, () -> x.set(years));
        }
    }
}
