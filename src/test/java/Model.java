import java.util.ArrayDeque;
import java.util.ArrayList;
import java.util.Deque;
import java.util.HashSet;
import java.util.List;
import java.util.NoSuchElementException;
import java.util.Set;
import java.util.regex.Matcher;
import java.util.regex.Pattern;

/** The document once more, written in another way (lists, records, patterns), to compare the class with. */
final class Model {
    record Feast(int rule, int rank, int day, int other) { }

    record Stick(int year, int carver, List<Integer> notches) { }

    record State(List<Feast> feasts, List<Integer> slips, int moonYears, List<Stick> sticks) { }

    private static final String DAY = "(?:[0-9]|[1-9][0-9]|[12][0-9][0-9]|3[0-5][0-9]|36[0-5])";
    private static final String DAYS = "(?:[0-9]|[1-8][0-9]|90)";
    private static final Pattern FEAST = Pattern.compile(
        "(?:d(" + DAY + ")|([wm])(" + DAY + "),([0-6])|a([0-9])([+-])(" + DAYS + "))(?:\\^([0-9]))?");
    private static final Pattern FEASTS = Pattern.compile(FEAST.pattern() + "(?:;" + FEAST.pattern() + ")*");
    private static final List<String> ENDINGS = List.of("", "0", ",0", "0,0", "+0", "0+0", "d0");

    private State now = new State(List.of(), List.of(0, 0, 0), 300, List.of());
    private final Deque<State> saved = new ArrayDeque<>();
    private String buffer = "";

    // ---- the calls

    int proclaim() {
        need(FEASTS.matcher(buffer).matches());
        List<Feast> feasts = new ArrayList<>(now.feasts);
        for (String text : buffer.split(";")) {
            Feast feast = parsed(text);
            if (feasts.size() == 10 || feast.rule == 3 && feast.other >= feasts.size()) {
                break;
            }
            feasts.add(feast);
        }
        int added = feasts.size() - now.feasts.size();
        become(new State(feasts, now.slips, now.moonYears, now.sticks));
        buffer = "";
        return added;
    }

    int forget() {
        if (now.feasts.isEmpty()) {
            throw new IllegalStateException();
        }
        int left = now.feasts.size() - 1;
        become(new State(List.copyOf(now.feasts.subList(0, left)), now.slips, now.moonYears, now.sticks));
        return left;
    }

    int rank(int feast, int rank) {
        Feast old = feastAt(feast);
        need(rank >= 0 && rank <= 9);
        List<Feast> feasts = new ArrayList<>(now.feasts);
        feasts.set(feast, new Feast(old.rule, rank, old.day, old.other));
        become(new State(feasts, now.slips, now.moonYears, now.sticks));
        return old.rank;
    }

    int teach(int carver, int slip) {
        needCarver(carver);
        need(slip >= -5 && slip <= 5);
        int previous = now.slips.get(carver);
        List<Integer> slips = new ArrayList<>(now.slips);
        slips.set(carver, slip);
        become(new State(now.feasts, slips, now.moonYears, now.sticks));
        return previous + 5;
    }

    int carve(int year, int carver) {
        needYear(year);
        needCarver(carver);
        List<Integer> notches = notches(year, now.slips.get(carver));
        List<Stick> sticks = new ArrayList<>(now.sticks);
        sticks.add(0, new Stick(year, carver, notches));
        if (sticks.size() > 5) {
            sticks.remove(5);
        }
        become(new State(now.feasts, now.slips, now.moonYears, sticks));
        return (int) notches.stream().filter(n -> n >= 0).count();
    }

    int burn(int stick) {
        int year = stickAt(stick).year;
        List<Stick> sticks = new ArrayList<>(now.sticks);
        sticks.remove(stick);
        become(new State(now.feasts, now.slips, now.moonYears, sticks));
        return year;
    }

    int set(int years) {
        need(years >= 50 && years <= 400);
        int previous = now.moonYears;
        become(new State(now.feasts, now.slips, years, now.sticks));
        return previous;
    }

    int append(int code) {
        need(code >= 33 && code <= 126);
        if (buffer.length() == 60) {
            throw new IllegalStateException();
        }
        buffer += (char) code;
        return buffer.length();
    }

    int clearBuffer() {
        int length = buffer.length();
        buffer = "";
        return length;
    }

    int firstError() {
        for (int length = 1; length <= buffer.length(); length++) {
            String start = buffer.substring(0, length);
            if (ENDINGS.stream().noneMatch(ending -> FEASTS.matcher(start + ending).matches())) {
                return length - 1;
            }
        }
        return buffer.length();
    }

    int undo() {
        try {
            now = saved.removeLast();
        } catch (NoSuchElementException none) {
            throw new IllegalStateException();
        }
        return saved.size();
    }

    int day(int year, int day, int what) {
        needYear(year);
        need(day >= 0 && day <= 365);
        need(what >= 0 && what <= 2);
        if (day >= length(year)) {
            return -1;
        }
        if (what == 0) {
            return weekday(year, day);
        }
        return what == 1 ? age(year, day, now.slips.get(0)) : settledNotches(year).indexOf(day);
    }

    int feast(int feast, int what) {
        Feast f = feastAt(feast);
        need(what >= 0 && what <= 3);
        return List.of(f.rule, f.rank, f.rule == 3 ? f.day + 90 : f.day, f.other).get(what);
    }

    int when(int feast, int year, int carver, boolean proper) {
        feastAt(feast);
        needYear(year);
        needCarver(carver);
        int slip = now.slips.get(carver);
        return proper ? proper(feast, year, slip) : notches(year, slip).get(feast);
    }

    int settled(int feast, int year) {
        feastAt(feast);
        needYear(year);
        return settledNotches(year).get(feast);
    }

    int quarrels(int year) {
        needYear(year);
        return quarrelsBy(year, now.slips);
    }

    int stick(int stick, int what) {
        Stick s = stickAt(stick);
        need(what >= 0 && what <= 13);
        return switch (what) {
            case 0 -> s.year;
            case 1 -> s.carver;
            case 2 -> (int) s.notches.stream().filter(n -> n >= 0).count();
            case 3 -> stale(s);
            default -> what - 4 < s.notches.size() ? s.notches.get(what - 4) : -1;
        };
    }

    int count(int what) {
        need(what >= 0 && what <= 7);
        return switch (what) {
            case 0 -> now.feasts.size();
            case 1 -> now.sticks.size();
            case 5 -> now.moonYears;
            case 6 -> staleOfAll();
            case 7 -> saved.size();
            default -> now.slips.get(what - 2) + 5;
        };
    }

    int range(int feast, int from, int years, boolean latest) {
        feastAt(feast);
        needYear(from);
        need(years >= 1 && years <= 40);
        Set<Integer> days = new HashSet<>();
        for (int year = from; year < Math.min(1000, from + years); year++) {
            days.add(settledNotches(year).get(feast));
        }
        days.remove(-1);
        return (latest ? days.stream().max(Integer::compare) : days.stream().min(Integer::compare)).orElse(-1);
    }

    int alike(int year) {
        needYear(year);
        for (int later = year + 1; later < 1000 && later - year <= 100; later++) {
            if (length(later) == length(year) && weekday(later, 0) == weekday(year, 0)
                    && settledNotches(later).equals(settledNotches(year))) {
                return later;
            }
        }
        return -1;
    }

    int peace(int carver, int year) {
        needCarver(carver);
        needYear(year);
        int best = 99;
        int fewest = 99;
        for (int slip = -5; slip <= 5; slip++) {
            List<Integer> slips = new ArrayList<>(now.slips);
            slips.set(carver, slip);
            int quarrels = quarrelsBy(year, slips);
            if (quarrels < fewest || quarrels == fewest && Math.abs(slip) < Math.abs(best)) {
                fewest = quarrels;
                best = slip;
            }
        }
        return best + 5;
    }

    int moved(int year, int carver) {
        needYear(year);
        needCarver(carver);
        int moved = 0;
        List<Integer> notches = notches(year, now.slips.get(carver));
        for (int feast = 0; feast < notches.size(); feast++) {
            if (notches.get(feast) >= 0 && notches.get(feast) != proper(feast, year, now.slips.get(carver))) {
                moved++;
            }
        }
        return moved;
    }

    double freshShare() {
        int all = now.sticks.stream().mapToInt(s -> s.notches.size()).sum();
        return all == 0 ? 1.0 : (all - staleOfAll()) / (double) all;
    }

    long digest() {
        List<Long> v = new ArrayList<>();
        for (int what = 0; what < 8; what++) {
            v.add((long) count(what));
        }
        for (int feast = 0; feast < now.feasts.size(); feast++) {
            for (int what = 0; what < 4; what++) {
                v.add((long) feast(feast, what));
            }
            for (int year : new int[] {0, 100, 777}) {
                for (int carver = 0; carver < 3; carver++) {
                    v.add((long) when(feast, year, carver, true));
                    v.add((long) when(feast, year, carver, false));
                }
                v.add((long) settled(feast, year));
            }
        }
        for (int year : new int[] {0, 100, 777}) {
            v.add((long) quarrels(year));
            for (int carver = 0; carver < 3; carver++) {
                v.add((long) moved(year, carver));
            }
        }
        for (int stick = 0; stick < now.sticks.size(); stick++) {
            for (int what = 0; what < 14; what++) {
                v.add((long) stick(stick, what));
            }
        }
        v.add((long) alike(20));
        v.add((long) peace(1, 100));
        if (!now.feasts.isEmpty()) {
            v.add((long) range(0, 50, 20, false));
            v.add((long) range(0, 50, 20, true));
        }
        v.add(Double.doubleToLongBits(freshShare()));
        v.add((long) buffer.length());
        buffer.chars().forEach(c -> v.add((long) c));
        return v.stream().reduce(2953L, (hash, value) -> 31 * hash + value);
    }

    // ---- what they share

    private void become(State next) {
        saved.addLast(now);
        if (saved.size() > 6) {
            saved.removeFirst();
        }
        now = next;
    }

    private static void need(boolean ok) {
        if (!ok) {
            throw new IllegalArgumentException();
        }
    }

    private static void needYear(int year) {
        need(year >= 0 && year <= 999);
    }

    private static void needCarver(int carver) {
        need(carver >= 0 && carver <= 2);
    }

    private Feast feastAt(int feast) {
        if (feast < 0 || feast >= now.feasts.size()) {
            throw new IndexOutOfBoundsException();
        }
        return now.feasts.get(feast);
    }

    private Stick stickAt(int stick) {
        if (stick < 0 || stick >= now.sticks.size()) {
            throw new IndexOutOfBoundsException();
        }
        return now.sticks.get(stick);
    }

    private static Feast parsed(String text) {
        Matcher m = FEAST.matcher(text);
        need(m.matches());
        int rank = m.group(8) == null ? 0 : Integer.parseInt(m.group(8));
        if (m.group(1) != null) {
            return new Feast(0, rank, Integer.parseInt(m.group(1)), -1);
        }
        if (m.group(2) != null) {
            int rule = m.group(2).equals("w") ? 1 : 2;
            return new Feast(rule, rank, Integer.parseInt(m.group(3)), Integer.parseInt(m.group(4)));
        }
        return new Feast(3, rank, Integer.parseInt(m.group(6) + m.group(7)), Integer.parseInt(m.group(5)));
    }

    private static int length(int year) {
        return year % 4 == 0 ? 366 : 365;
    }

    private static int weekday(int year, int day) {
        int ahead = day;
        for (int y = 0; y < year; y++) {
            ahead += length(y);
        }
        return ahead % 7;
    }

    private int age(int year, int day, int slip) {
        return (11 * (year % 19) + year / now.moonYears + slip + 5 + day + day / 59) % 30;
    }

    private int proper(int feast, int year, int slip) {
        Feast f = now.feasts.get(feast);
        int day = f.day;
        if (f.rule == 2) {
            while (day < length(year) && age(year, day, slip) != 14) {
                day++;
            }
            day++;
        }
        if (f.rule == 1 || f.rule == 2) {
            while (day < length(year) && weekday(year, day) != f.other) {
                day++;
            }
        }
        if (f.rule == 3) {
            int other = proper(f.other, year, slip);
            day = other < 0 ? -1 : other + f.day;
        }
        return day >= 0 && day < length(year) ? day : -1;
    }

    private List<Integer> notches(int year, int slip) {
        List<Integer> order = new ArrayList<>();
        List<Integer> notches = new ArrayList<>();
        for (int feast = 0; feast < now.feasts.size(); feast++) {
            order.add(feast);
            notches.add(-1);
        }
        order.sort((a, b) -> now.feasts.get(b).rank - now.feasts.get(a).rank);
        Set<Integer> taken = new HashSet<>();
        for (int feast : order) {
            int day = proper(feast, year, slip);
            while (day >= 0 && taken.contains(day)) {
                day++;
            }
            if (day >= 0 && day < length(year)) {
                taken.add(day);
                notches.set(feast, day);
            }
        }
        return notches;
    }

    private List<Integer> settledNotches(int year) {
        List<Integer> settled = new ArrayList<>();
        List<List<Integer>> by = new ArrayList<>();
        for (int slip : now.slips) {
            by.add(notches(year, slip));
        }
        for (int feast = 0; feast < now.feasts.size(); feast++) {
            int answer = by.get(0).get(feast);
            for (List<Integer> one : by) {
                int agreeing = 0;
                for (List<Integer> another : by) {
                    agreeing += another.get(feast).equals(one.get(feast)) ? 1 : 0;
                }
                answer = agreeing >= 2 ? one.get(feast) : answer;
            }
            settled.add(answer);
        }
        return settled;
    }

    private int quarrelsBy(int year, List<Integer> slips) {
        int quarrels = 0;
        for (int feast = 0; feast < now.feasts.size(); feast++) {
            Set<Integer> unlike = new HashSet<>();
            for (int slip : slips) {
                unlike.add(notches(year, slip).get(feast));
            }
            quarrels += unlike.size() > 1 ? 1 : 0;
        }
        return quarrels;
    }

    private int stale(Stick s) {
        List<Integer> today = notches(s.year, now.slips.get(s.carver));
        int stale = 0;
        for (int feast = 0; feast < s.notches.size(); feast++) {
            if (feast >= today.size() || !today.get(feast).equals(s.notches.get(feast))) {
                stale++;
            }
        }
        return stale;
    }

    private int staleOfAll() {
        return now.sticks.stream().mapToInt(this::stale).sum();
    }
}
