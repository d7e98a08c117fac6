/** Calendar sticks carved with notches; ../shared/DOC.md says what each call answers. */
public final class RunicSticks {
    public static final int NONE = -1;

    private static final int MOST_FEASTS = 10;
    private static final int MOST_STICKS = 5;
    private static final int MOST_SAVED = 6;
    private static final int MOST_SIGNS = 60;
    private static final int CARVERS = 3;

    private static final int LAST_YEAR = 999;
    private static final int LAST_DAY = 365;
    private static final int WEEK = 7;
    private static final int FULL_MOON = 14;
    private static final int TOP_RANK = 9;
    private static final int MOST_OFFSET = 90;
    private static final int MOST_SLIP = 5;
    private static final int LEAST_MOON_YEARS = 50;
    private static final int MOST_MOON_YEARS = 400;
    private static final int FIRST_MOON_YEARS = 300;
    private static final int MOST_RANGE = 40;
    private static final int ALIKE_WITHIN = 100;

    private static final int FIXED_DAY = 0;
    private static final int WEEKDAY_FROM = 1;
    private static final int WEEKDAY_PAST_MOON = 2;
    private static final int OTHER_FEAST = 3;

    private static final int STICK_STALE = 3;
    private static final int STICK_FIRST_NOTCH = 4;
    private static final int STICK_LAST = STICK_FIRST_NOTCH + MOST_FEASTS - 1;
    private static final int FEAST_LAST = 3;
    private static final int COUNT_LAST = 7;

    private static final int DIGEST_START = 2953;
    private static final int[] DIGEST_YEARS = {0, 100, 777};

    private final State now = new State();
    private final History history = new History();
    private final Row buffer = new Row(MOST_SIGNS);
    private final Reader reader = new Reader();
    private final Reckoning reckoning = new Reckoning();
    private final Council council = new Council();
    private final Council rival = new Council();
    private final Council[] digestCouncils = new Council[DIGEST_YEARS.length];
    private int bufferLength = 0;

    public RunicSticks() {
        for (int i = 0; i < digestCouncils.length; i++) {
            digestCouncils[i] = new Council();
        }
    }

    // ---- feasts

    public int proclaim() throws IllegalArgumentException {
        if (!bufferTellsFeasts()) {
            throw new IllegalArgumentException("the buffer does not tell feasts");
        }
        history.save(now);
        int added = addBufferedFeasts();
        bufferLength = 0;
        return added;
    }

    public int forget() throws IllegalStateException {
        if (now.feasts <= 0) {
            throw new IllegalStateException("there is no feast");
        }
        history.save(now);
        now.feasts--;
        return now.feasts;
    }

    public int rank(int feast, int rank) throws IndexOutOfBoundsException, IllegalArgumentException {
        needFeast(feast);
        needWithin(rank, 0, TOP_RANK);
        history.save(now);
        int previous = now.ranks.at(feast);
        now.ranks.put(feast, rank);
        return previous;
    }

    // ---- carvers, sticks

    public int teach(int carver, int slip) throws IllegalArgumentException {
        needCarver(carver);
        needWithin(slip, -MOST_SLIP, MOST_SLIP);
        history.save(now);
        int previous = now.slips.at(carver);
        now.slips.put(carver, slip);
        return previous + MOST_SLIP;
    }

    public int carve(int year, int carver) throws IllegalArgumentException {
        needYear(year);
        needCarver(carver);
        history.save(now);
        reckoning.reckon(now, year, now.slips.at(carver));
        now.addStick(year, carver, reckoning.notches);
        return now.notchesOfStick(0);
    }

    public int burn(int stick) throws IndexOutOfBoundsException {
        needStick(stick);
        history.save(now);
        int year = now.stickYears.at(stick);
        now.dropStick(stick);
        return year;
    }

    public int set(int years) throws IllegalArgumentException {
        needWithin(years, LEAST_MOON_YEARS, MOST_MOON_YEARS);
        history.save(now);
        int previous = now.moonYears;
        now.moonYears = years;
        return previous;
    }

    // ---- the buffer

    public int append(int code) throws IllegalArgumentException, IllegalStateException {
        needWithin(code, '!', '~');
        if (bufferLength >= MOST_SIGNS) {
            throw new IllegalStateException("the buffer is full");
        }
        buffer.put(bufferLength, code);
        bufferLength++;
        return bufferLength;
    }

    public int clearBuffer() {
        int length = bufferLength;
        bufferLength = 0;
        return length;
    }

    public int firstError() {
        return signsReadWell();
    }

    public int undo() throws IllegalStateException {
        if (history.isEmpty()) {
            throw new IllegalStateException("no state is saved");
        }
        history.restoreInto(now);
        return history.size();
    }

    // ---- looks; nothing is changed

    public int day(int year, int day, int what) throws IllegalArgumentException {
        needYear(year);
        needWithin(day, 0, LAST_DAY);
        needWithin(what, 0, 2);
        if (day >= daysIn(year)) {
            return NONE;
        }
        switch (what) {
            case 0:
                return (newYearWeekday(year) + day) % WEEK;
            case 1:
                return moonAge(moonShift(year, now.slips.at(0), now.moonYears), day);
            default:
                return lowestFeastOn(year, day);
        }
    }

    public int feast(int feast, int what) throws IndexOutOfBoundsException, IllegalArgumentException {
        needFeast(feast);
        needWithin(what, 0, FEAST_LAST);
        return feastProperty(feast, what);
    }

    public int when(int feast, int year, int carver, boolean proper)
            throws IndexOutOfBoundsException, IllegalArgumentException {
        needFeast(feast);
        needYear(year);
        needCarver(carver);
        reckoning.reckon(now, year, now.slips.at(carver));
        return proper ? reckoning.propers.at(feast) : reckoning.notches.at(feast);
    }

    public int settled(int feast, int year) throws IndexOutOfBoundsException, IllegalArgumentException {
        needFeast(feast);
        needYear(year);
        council.gather(now, year);
        return council.settledNotch(feast);
    }

    public int quarrels(int year) throws IllegalArgumentException {
        needYear(year);
        council.gather(now, year);
        return council.quarrelCount(now.feasts);
    }

    public int stick(int stick, int what) throws IndexOutOfBoundsException, IllegalArgumentException {
        needStick(stick);
        needWithin(what, 0, STICK_LAST);
        return stickProperty(stick, what);
    }

    public int count(int what) throws IllegalArgumentException {
        needWithin(what, 0, COUNT_LAST);
        return numberOf(what);
    }

    // ---- what would be; nothing is changed

    public int range(int feast, int from, int years, boolean latest)
            throws IndexOutOfBoundsException, IllegalArgumentException {
        needFeast(feast);
        needYear(from);
        needWithin(years, 1, MOST_RANGE);
        return outermost(feast, from, years, latest);
    }

    public int alike(int year) throws IllegalArgumentException {
        needYear(year);
        return nextAlike(year);
    }

    public int peace(int carver, int year) throws IllegalArgumentException {
        needCarver(carver);
        needYear(year);
        return calmestSlip(carver, year) + MOST_SLIP;
    }

    public int moved(int year, int carver) throws IllegalArgumentException {
        needYear(year);
        needCarver(carver);
        reckoning.reckon(now, year, now.slips.at(carver));
        return reckoning.movedCount(now.feasts);
    }

    public double freshShare() {
        return freshPart();
    }

    public long digest() {
        long hash = DIGEST_START;
        for (int what = 0; what <= COUNT_LAST; what++) {
            hash = mixed(hash, numberOf(what));
        }
        gatherDigestCouncils();
        hash = mixedFeasts(hash);
        hash = mixedQuarrels(hash);
        for (int stick = 0; stick < now.sticks; stick++) {
            for (int what = 0; what <= STICK_LAST; what++) {
                hash = mixed(hash, stickProperty(stick, what));
            }
        }
        hash = mixed(hash, nextAlike(20));
        hash = mixed(hash, calmestSlip(1, 100) + MOST_SLIP);
        if (now.feasts > 0) {
            hash = mixed(hash, outermost(0, 50, 20, false));
            hash = mixed(hash, outermost(0, 50, 20, true));
        }
        hash = mixed(hash, bitsOfShare(freshPart()));
        hash = mixed(hash, bufferLength);
        for (int i = 0; i < bufferLength; i++) {
            hash = mixed(hash, buffer.at(i));
        }
        return hash;
    }

    // ---- arguments

    private static void needWithin(int value, int least, int most) throws IllegalArgumentException {
        if (value < least || value > most) {
            throw new IllegalArgumentException("an argument is out of range");
        }
    }

    private static void needYear(int year) throws IllegalArgumentException {
        needWithin(year, 0, LAST_YEAR);
    }

    private static void needCarver(int carver) throws IllegalArgumentException {
        needWithin(carver, 0, CARVERS - 1);
    }

    private void needFeast(int feast) throws IndexOutOfBoundsException {
        if (feast < 0 || feast >= now.feasts) {
            throw new IndexOutOfBoundsException("there is no such feast");
        }
    }

    private void needStick(int stick) throws IndexOutOfBoundsException {
        if (stick < 0 || stick >= now.sticks) {
            throw new IndexOutOfBoundsException("there is no such stick");
        }
    }

    // ---- years and moons

    private static boolean isLeap(int year) {
        return year % 4 == 0;
    }

    private static int daysIn(int year) {
        return isLeap(year) ? 366 : 365;
    }

    private static int newYearWeekday(int year) {
        int leapYearsAhead = (year + 3) / 4;
        return (365 * year + leapYearsAhead) % WEEK;
    }

    /** The part of the moon's age that is the same on all days of a year. */
    private static int moonShift(int year, int slip, int moonYears) {
        int slipped = moonYears > 0 ? year / moonYears : 0;
        return 11 * (year % 19) + slipped + slip + MOST_SLIP;
    }

    private static int moonAge(int shift, int day) {
        return (shift + day + day / 59) % 30;
    }

    // ---- the buffer's text

    private int signsReadWell() {
        reader.start();
        for (int i = 0; i < bufferLength; i++) {
            if (!reader.reads(buffer.at(i))) {
                return i;
            }
        }
        return bufferLength;
    }

    private boolean bufferTellsFeasts() {
        return signsReadWell() == bufferLength && reader.mayEnd();
    }

    /** The buffer is known to tell feasts. */
    private int addBufferedFeasts() {
        int before = now.feasts;
        boolean adding = true;
        reader.start();
        for (int i = 0; i < bufferLength && adding; i++) {
            int sign = buffer.at(i);
            if (sign == ';') {
                adding = addReadFeast();
            }
            reader.reads(sign);
        }
        if (adding) {
            addReadFeast();
        }
        return now.feasts - before;
    }

    private boolean addReadFeast() {
        boolean namesNoLower = reader.rule == OTHER_FEAST && reader.other >= now.feasts;
        if (now.feasts >= MOST_FEASTS || namesNoLower) {
            return false;
        }
        now.addFeast(reader);
        return true;
    }

    // ---- answers that both the face and the digest give

    private int lowestFeastOn(int year, int day) {
        council.gather(now, year);
        for (int feast = 0; feast < now.feasts; feast++) {
            if (council.settledNotch(feast) == day) {
                return feast;
            }
        }
        return NONE;
    }

    private int feastProperty(int feast, int what) {
        switch (what) {
            case 0:
                return now.rules.at(feast);
            case 1:
                return now.ranks.at(feast);
            case 2:
                return now.rules.at(feast) == OTHER_FEAST ? now.days.at(feast) + MOST_OFFSET : now.days.at(feast);
            default:
                return now.others.at(feast);
        }
    }

    private int stickProperty(int stick, int what) {
        switch (what) {
            case 0:
                return now.stickYears.at(stick);
            case 1:
                return now.stickCarvers.at(stick);
            case 2:
                return now.notchesOfStick(stick);
            case STICK_STALE:
                return staleFeasts(stick, stick + 1);
            default:
                return now.stickNotch(stick, what - STICK_FIRST_NOTCH);
        }
    }

    private int numberOf(int what) {
        switch (what) {
            case 0:
                return now.feasts;
            case 1:
                return now.sticks;
            case 5:
                return now.moonYears;
            case 6:
                return staleFeasts(0, now.sticks);
            case 7:
                return history.size();
            default:
                return now.slips.at(what - 2) + MOST_SLIP;
        }
    }

    /** How many feasts are stale of the sticks from one on, up to the end (without it). */
    private int staleFeasts(int from, int end) {
        int stale = 0;
        for (int stick = from; stick < end; stick++) {
            reckoning.reckon(now, now.stickYears.at(stick), now.slips.at(now.stickCarvers.at(stick)));
            int feasts = now.stickFeasts.at(stick);
            for (int feast = 0; feast < feasts; feast++) {
                boolean gone = feast >= now.feasts;
                if (gone || reckoning.notches.at(feast) != now.stickNotch(stick, feast)) {
                    stale++;
                }
            }
        }
        return stale;
    }

    private double freshPart() {
        int all = 0;
        for (int stick = 0; stick < now.sticks; stick++) {
            all += now.stickFeasts.at(stick);
        }
        if (all <= 0) {
            return 1.0;
        }
        int fresh = all - staleFeasts(0, now.sticks);
        return (double) fresh / (double) all;
    }

    private int outermost(int feast, int from, int years, boolean latest) {
        int found = NONE;
        for (int year = from; year < from + years && year <= LAST_YEAR; year++) {
            council.gather(now, year);
            int notch = council.settledNotch(feast);
            if (notch != NONE && (found == NONE || (latest ? notch > found : notch < found))) {
                found = notch;
            }
        }
        return found;
    }

    private int nextAlike(int year) {
        council.gather(now, year);
        for (int later = year + 1; later <= year + ALIKE_WITHIN && later <= LAST_YEAR; later++) {
            if (daysIn(later) == daysIn(year) && newYearWeekday(later) == newYearWeekday(year)) {
                rival.gather(now, later);
                if (rival.settlesLike(council, now.feasts)) {
                    return later;
                }
            }
        }
        return NONE;
    }

    /** The slips are tried by size, the lower one first: 0, -1, 1, -2, 2 and so on. */
    private int calmestSlip(int carver, int year) {
        council.gather(now, year);
        int best = 0;
        int fewest = MOST_FEASTS + 1;
        for (int i = 0; i <= 2 * MOST_SLIP; i++) {
            int size = (i + 1) / 2;
            int slip = i % 2 == 1 ? -size : size;
            council.by(carver).reckon(now, year, slip);
            int quarrelsThen = council.quarrelCount(now.feasts);
            if (quarrelsThen < fewest) {
                fewest = quarrelsThen;
                best = slip;
            }
        }
        return best;
    }

    // ---- the digest

    private static long mixed(long hash, long value) {
        return 31 * hash + value;
    }

    private void gatherDigestCouncils() {
        for (int i = 0; i < digestCouncils.length && i < DIGEST_YEARS.length; i++) {
            Council heard = digestCouncils[i];
            if (heard != null) {
                heard.gather(now, DIGEST_YEARS[i]);
            }
        }
    }

    private long mixedFeasts(long start) {
        long hash = start;
        for (int feast = 0; feast < now.feasts; feast++) {
            for (int what = 0; what <= FEAST_LAST; what++) {
                hash = mixed(hash, feastProperty(feast, what));
            }
            for (int i = 0; i < digestCouncils.length; i++) {
                Council heard = digestCouncils[i];
                if (heard != null) {
                    hash = mixedDays(hash, heard, feast);
                }
            }
        }
        return hash;
    }

    private static long mixedDays(long start, Council heard, int feast) {
        long hash = start;
        for (int carver = 0; carver < CARVERS; carver++) {
            hash = mixed(hash, heard.by(carver).propers.at(feast));
            hash = mixed(hash, heard.by(carver).notches.at(feast));
        }
        return mixed(hash, heard.settledNotch(feast));
    }

    private long mixedQuarrels(long start) {
        long hash = start;
        for (int i = 0; i < digestCouncils.length; i++) {
            Council heard = digestCouncils[i];
            if (heard != null) {
                hash = mixed(hash, heard.quarrelCount(now.feasts));
                for (int carver = 0; carver < CARVERS; carver++) {
                    hash = mixed(hash, heard.by(carver).movedCount(now.feasts));
                }
            }
        }
        return hash;
    }

    /** The bits of a double from 0.0 to 1.0: the exponent's, and those behind the leading one. */
    private static long bitsOfShare(double share) {
        if (!(share > 0.0)) {
            return 0L;
        }
        double scaled = share;
        long exponent = 1023;
        for (int step = 0; step < 1022 && scaled < 1.0; step++) {
            scaled = scaled * 2.0;
            exponent--;
        }
        return (exponent << 52) + (long) ((scaled - 1.0) * 4503599627370496.0);
    }

    /** Numbers in a row of a fixed length; a place outside it tells NONE and takes nothing. */
    private static final class Row {
        private final int[] cells;

        Row(int length) {
            cells = new int[length > 0 ? length : 0];
        }

        int at(int place) {
            return place >= 0 && place < cells.length ? cells[place] : NONE;
        }

        void put(int place, int value) {
            if (place >= 0 && place < cells.length) {
                cells[place] = value;
            }
        }

        void putNowhere() {
            for (int i = 0; i < cells.length; i++) {
                cells[i] = NONE;
            }
        }

        void copyFrom(Row other) {
            for (int i = 0; i < cells.length; i++) {
                cells[i] = other.at(i);
            }
        }
    }

    /** All that undo brings back. */
    private static final class State {
        int feasts = 0;
        final Row rules = new Row(MOST_FEASTS);
        final Row ranks = new Row(MOST_FEASTS);
        /** For the rule 3: the days from the other feast, -90 to 90. */
        final Row days = new Row(MOST_FEASTS);
        /** The weekday, or for the rule 3 the other feast; NONE for the rule 0. */
        final Row others = new Row(MOST_FEASTS);
        final Row slips = new Row(CARVERS);
        int moonYears = FIRST_MOON_YEARS;
        int sticks = 0;
        final Row stickYears = new Row(MOST_STICKS);
        final Row stickCarvers = new Row(MOST_STICKS);
        final Row stickFeasts = new Row(MOST_STICKS);
        final Row stickNotches = new Row(MOST_STICKS * MOST_FEASTS);

        void copyFrom(State other) {
            feasts = other.feasts;
            rules.copyFrom(other.rules);
            ranks.copyFrom(other.ranks);
            days.copyFrom(other.days);
            others.copyFrom(other.others);
            slips.copyFrom(other.slips);
            moonYears = other.moonYears;
            sticks = other.sticks;
            stickYears.copyFrom(other.stickYears);
            stickCarvers.copyFrom(other.stickCarvers);
            stickFeasts.copyFrom(other.stickFeasts);
            stickNotches.copyFrom(other.stickNotches);
        }

        void addFeast(Reader read) {
            rules.put(feasts, read.rule);
            ranks.put(feasts, read.rankRead);
            days.put(feasts, read.isMinus ? -read.number : read.number);
            others.put(feasts, read.other);
            feasts++;
        }

        /** The new stick comes ahead of the others; the oldest one falls out if they are too many. */
        void addStick(int year, int carver, Row notches) {
            if (sticks < MOST_STICKS) {
                sticks++;
            }
            for (int place = sticks - 1; place > 0; place--) {
                copyStick(place - 1, place);
            }
            stickYears.put(0, year);
            stickCarvers.put(0, carver);
            stickFeasts.put(0, feasts);
            for (int feast = 0; feast < MOST_FEASTS; feast++) {
                stickNotches.put(feast, notches.at(feast));
            }
        }

        void dropStick(int stick) {
            for (int place = stick; place < sticks - 1; place++) {
                copyStick(place + 1, place);
            }
            sticks--;
        }

        private void copyStick(int from, int to) {
            stickYears.put(to, stickYears.at(from));
            stickCarvers.put(to, stickCarvers.at(from));
            stickFeasts.put(to, stickFeasts.at(from));
            for (int feast = 0; feast < MOST_FEASTS; feast++) {
                stickNotches.put(to * MOST_FEASTS + feast, stickNotch(from, feast));
            }
        }

        int stickNotch(int stick, int feast) {
            return stickNotches.at(stick * MOST_FEASTS + feast);
        }

        int notchesOfStick(int stick) {
            int notches = 0;
            for (int feast = 0; feast < MOST_FEASTS; feast++) {
                if (stickNotch(stick, feast) != NONE) {
                    notches++;
                }
            }
            return notches;
        }
    }

    /** The saved states, in a ring whose places are used again. */
    private static final class History {
        private final State[] ring = new State[MOST_SAVED];
        private int oldest = 0;
        private int saved = 0;

        History() {
            for (int i = 0; i < ring.length; i++) {
                ring[i] = new State();
            }
        }

        int size() {
            return saved;
        }

        boolean isEmpty() {
            return saved <= 0;
        }

        void save(State state) {
            if (saved >= MOST_SAVED) {
                oldest = (oldest + 1) % MOST_SAVED;
                saved--;
            }
            State free = stateAt(saved);
            if (free != null) {
                free.copyFrom(state);
            }
            saved++;
        }

        void restoreInto(State state) {
            saved--;
            State latest = stateAt(saved);
            if (latest != null) {
                state.copyFrom(latest);
            }
        }

        private State stateAt(int age) {
            int place = (oldest + age) % MOST_SAVED;
            return place >= 0 && place < ring.length ? ring[place] : null;
        }
    }

    /** Reads feasts as a text, character by character; holds what the feast being read has told so far. */
    private static final class Reader {
        private static final int AT_RULE = 0;
        private static final int AT_OTHER = 1;
        private static final int AT_SIGN = 2;
        private static final int AT_NUMBER = 3;
        private static final int IN_NUMBER = 4;
        private static final int AT_WEEKDAY = 5;
        private static final int BEHIND_RULE = 6;
        private static final int AT_RANK = 7;
        private static final int BEHIND_RANK = 8;

        int rule;
        int number;
        boolean isMinus;
        int other;
        int rankRead;
        private int place;

        void start() {
            place = AT_RULE;
            rule = FIXED_DAY;
            number = 0;
            isMinus = false;
            other = NONE;
            rankRead = 0;
        }

        /** Whether the text may end here. */
        boolean mayEnd() {
            return place == BEHIND_RULE || place == BEHIND_RANK || place == IN_NUMBER && !hasWeekday();
        }

        /** Reads one more character, or tells that it is a syntax error. */
        boolean reads(int sign) {
            switch (place) {
                case AT_RULE:
                    return readsRule(sign);
                case AT_OTHER:
                    return readsOther(sign, MOST_FEASTS - 1, AT_SIGN);
                case AT_SIGN:
                    return readsSign(sign);
                case AT_NUMBER:
                    return readsFirstDigit(sign);
                case IN_NUMBER:
                    return readsNextDigit(sign) || (hasWeekday() ? readsComma(sign) : readsBehindRule(sign));
                case AT_WEEKDAY:
                    return readsOther(sign, WEEK - 1, BEHIND_RULE);
                case BEHIND_RULE:
                    return readsBehindRule(sign);
                case AT_RANK:
                    return readsRank(sign);
                default:
                    return readsSeparator(sign);
            }
        }

        private boolean hasWeekday() {
            return rule == WEEKDAY_FROM || rule == WEEKDAY_PAST_MOON;
        }

        private static boolean isDigit(int sign) {
            return sign >= '0' && sign <= '9';
        }

        private boolean readsRule(int sign) {
            switch (sign) {
                case 'd':
                    rule = FIXED_DAY;
                    break;
                case 'w':
                    rule = WEEKDAY_FROM;
                    break;
                case 'm':
                    rule = WEEKDAY_PAST_MOON;
                    break;
                case 'a':
                    rule = OTHER_FEAST;
                    break;
                default:
                    return false;
            }
            place = rule == OTHER_FEAST ? AT_OTHER : AT_NUMBER;
            return true;
        }

        private boolean readsOther(int sign, int most, int next) {
            if (sign < '0' || sign > '0' + most) {
                return false;
            }
            other = sign - '0';
            place = next;
            return true;
        }

        private boolean readsSign(int sign) {
            if (sign != '+' && sign != '-') {
                return false;
            }
            isMinus = sign == '-';
            place = AT_NUMBER;
            return true;
        }

        private boolean readsFirstDigit(int sign) {
            if (!isDigit(sign)) {
                return false;
            }
            number = sign - '0';
            place = IN_NUMBER;
            return true;
        }

        private boolean readsNextDigit(int sign) {
            int longer = number * 10 + sign - '0';
            int most = rule == OTHER_FEAST ? MOST_OFFSET : LAST_DAY;
            // a number that is 0 so far would have a leading zero
            if (!isDigit(sign) || number == 0 || longer > most) {
                return false;
            }
            number = longer;
            return true;
        }

        private boolean readsComma(int sign) {
            if (sign != ',') {
                return false;
            }
            place = AT_WEEKDAY;
            return true;
        }

        private boolean readsBehindRule(int sign) {
            if (sign != '^') {
                return readsSeparator(sign);
            }
            place = AT_RANK;
            return true;
        }

        private boolean readsRank(int sign) {
            if (!isDigit(sign)) {
                return false;
            }
            rankRead = sign - '0';
            place = BEHIND_RANK;
            return true;
        }

        private boolean readsSeparator(int sign) {
            if (sign != ';') {
                return false;
            }
            start();
            return true;
        }
    }

    /** The proper days and the notches of all feasts in one year by one slip. */
    private static final class Reckoning {
        final Row propers = new Row(MOST_FEASTS);
        final Row notches = new Row(MOST_FEASTS);
        private int days;
        private int firstWeekday;
        private int shift;

        void reckon(State state, int year, int slip) {
            days = daysIn(year);
            firstWeekday = newYearWeekday(year);
            shift = moonShift(year, slip, state.moonYears);
            for (int feast = 0; feast < state.feasts; feast++) {
                propers.put(feast, orNone(dayByRule(state, feast)));
            }
            notches.putNowhere();
            for (int rank = TOP_RANK; rank >= 0; rank--) {
                cutNotches(state, rank);
            }
        }

        int movedCount(int feasts) {
            int moves = 0;
            for (int feast = 0; feast < feasts; feast++) {
                int notch = notches.at(feast);
                if (notch != NONE && notch != propers.at(feast)) {
                    moves++;
                }
            }
            return moves;
        }

        private int orNone(int day) {
            return day >= 0 && day < days ? day : NONE;
        }

        /** A feast's proper day, or a day that is not within the year; those of lower numbers are known. */
        private int dayByRule(State state, int feast) {
            int day = state.days.at(feast);
            int other = state.others.at(feast);
            switch (state.rules.at(feast)) {
                case FIXED_DAY:
                    return day;
                case WEEKDAY_FROM:
                    return weekdayFrom(day, other);
                case WEEKDAY_PAST_MOON:
                    return weekdayPastMoon(day, other);
                default:
                    return propers.at(other) == NONE ? NONE : propers.at(other) + day;
            }
        }

        private int weekdayFrom(int day, int weekday) {
            int weekdayThen = (firstWeekday + day) % WEEK;
            return day + (weekday + WEEK - weekdayThen) % WEEK;
        }

        private int weekdayPastMoon(int from, int weekday) {
            for (int day = from; day < days; day++) {
                if (moonAge(shift, day) == FULL_MOON) {
                    return weekdayFrom(day + 1, weekday);
                }
            }
            return NONE;
        }

        private void cutNotches(State state, int rank) {
            for (int feast = 0; feast < state.feasts; feast++) {
                int day = propers.at(feast);
                if (day != NONE && state.ranks.at(feast) == rank) {
                    // each step passes another feast's notch, so there are fewer steps than feasts
                    for (int step = 0; step < state.feasts && hasNotch(day, state.feasts); step++) {
                        day++;
                    }
                    notches.put(feast, orNone(day));
                }
            }
        }

        private boolean hasNotch(int day, int feasts) {
            for (int feast = 0; feast < feasts; feast++) {
                if (notches.at(feast) == day) {
                    return true;
                }
            }
            return false;
        }
    }

    /** What the three carvers reckon for one year. */
    private static final class Council {
        private final Reckoning first = new Reckoning();
        private final Reckoning second = new Reckoning();
        private final Reckoning third = new Reckoning();

        Reckoning by(int carver) {
            switch (carver) {
                case 1:
                    return second;
                case 2:
                    return third;
                default:
                    return first;
            }
        }

        void gather(State state, int year) {
            for (int carver = 0; carver < CARVERS; carver++) {
                by(carver).reckon(state, year, state.slips.at(carver));
            }
        }

        /** Two that agree settle it; only if these are not the second and the third, it is the first's. */
        int settledNotch(int feast) {
            int notch = second.notches.at(feast);
            return notch == third.notches.at(feast) ? notch : first.notches.at(feast);
        }

        int quarrelCount(int feasts) {
            int quarrelsOver = 0;
            for (int feast = 0; feast < feasts; feast++) {
                int notch = first.notches.at(feast);
                if (notch != second.notches.at(feast) || notch != third.notches.at(feast)) {
                    quarrelsOver++;
                }
            }
            return quarrelsOver;
        }

        boolean settlesLike(Council other, int feasts) {
            for (int feast = 0; feast < feasts; feast++) {
                if (settledNotch(feast) != other.settledNotch(feast)) {
                    return false;
                }
            }
            return true;
        }
    }
}
