/** A still picture of entry numbers, and the colours that turn below it. */
public final class Cyclepaint {
    private static final int NONE = -1;
    private static final int ENTRIES = 16;
    private static final int COLOURS = 64;
    private static final int ROWS = 4;
    private static final int COLUMNS = 8;
    private static final int DOTS = ROWS * COLUMNS;
    private static final int MOST_RANGES = 4;
    private static final int MOST_SPEED = 9;
    private static final int BACK = 1;
    private static final int SWING = 2;
    private static final int MOST_TICK = 99999;
    private static final int MOST_TICKS = 200;
    private static final int FLICKER_TICKS = 30;
    private static final int CALM_FLICKER = 10;
    private static final int MOST_KEPT = 5;
    private static final int WHEN_TICKS = 400;
    private static final int FIRST_LIMIT = 8;
    private static final int DOT_FACTS = 4;
    private static final int ENTRY_FACTS = 6;
    private static final int RANGE_FACTS = 6;
    private static final int PICTURE_FACTS = 12;
    private static final int MOST_GCD_STEPS = 100;

    private final Palette palette = new Palette();
    private final int[] dots = new int[DOTS];
    /** How many dots have each entry: kept beside the dots, so that time is reckoned by entry and not by dot. */
    private final int[] uses = new int[ENTRIES];
    private final int[] kept = new int[MOST_KEPT * DOTS];
    private int keptCount = 0;
    private int tick = 0;
    private int limit = FIRST_LIMIT;
    private int refused = 0;

    public Cyclepaint() {
        uses[0] = DOTS;
    }

    // ---- colours and dots

    public int colour(int entry, int colour) throws IndexOutOfBoundsException, IllegalArgumentException {
        if (!isEntry(entry)) {
            throw new IndexOutOfBoundsException("no such entry");
        }
        if (!isColour(colour)) {
            throw new IllegalArgumentException("no such colour");
        }
        int before = palette.baseOf(entry);
        palette.tellBase(entry, colour);
        return before;
    }

    public int paint(int row, int from, int to, int entry)
            throws IndexOutOfBoundsException, IllegalArgumentException {
        if (!isDot(row, from) || !isDot(row, to)) {
            throw new IndexOutOfBoundsException("no such dot");
        }
        if (to < from || !isEntry(entry)) {
            throw new IllegalArgumentException("no dots, or no such entry");
        }
        int changed = 0;
        for (int column = from; column <= to; column++) {
            if (giveEntry(row * COLUMNS + column, entry)) {
                changed++;
            }
        }
        return changed;
    }

    public int range(int from, int to, int speed, int kind)
            throws IndexOutOfBoundsException, IllegalArgumentException, IllegalStateException {
        if (!isEntry(from) || !isEntry(to)) {
            throw new IndexOutOfBoundsException("no such entry");
        }
        if (to <= from || !isSpeed(speed) || !isKind(kind)) {
            throw new IllegalArgumentException("not a range, a speed or a kind");
        }
        if (palette.ranges() >= MOST_RANGES || !palette.isFree(from, to)) {
            throw new IllegalStateException("no place for another range");
        }
        return palette.addRange(new Range(from, to, speed, kind));
    }

    public int turn(int range, int speed, int kind) throws IndexOutOfBoundsException, IllegalArgumentException {
        Range told = palette.rangeAt(range);
        if (told == null) {
            throw new IndexOutOfBoundsException("no such range");
        }
        if (!isSpeed(speed) || !isKind(kind)) {
            throw new IllegalArgumentException("not a speed or a kind");
        }
        told.tell(speed, kind);
        return told.shift(tick);
    }

    public int stop(int range) throws IndexOutOfBoundsException {
        if (palette.rangeAt(range) == null) {
            throw new IndexOutOfBoundsException("no such range");
        }
        palette.removeRange(range);
        return palette.ranges();
    }

    public int merge() {
        int changed = 0;
        for (int dot = 0; dot < DOTS; dot++) {
            if (giveEntry(dot, palette.smallestTwin(dots[dot]))) {
                changed++;
            }
        }
        return changed;
    }

    // ---- time, and what is kept

    public int run(int ticks) throws IllegalArgumentException, IllegalStateException {
        if (!isTickCount(ticks)) {
            throw new IllegalArgumentException("not 1 to 200 ticks");
        }
        if (tick + ticks > MOST_TICK) {
            throw new IllegalStateException("too late a tick");
        }
        int changes = 0;
        for (int entry = 0; entry < ENTRIES; entry++) {
            if (uses[entry] > 0) {
                changes += uses[entry] * palette.changes(entry, tick, ticks);
            }
        }
        tick += ticks;
        return changes;
    }

    public int jump(int tick) throws IllegalArgumentException {
        if (!isTick(tick)) {
            throw new IllegalArgumentException("no such tick");
        }
        int before = this.tick;
        this.tick = tick;
        return before;
    }

    public int keep() throws IllegalStateException {
        if (keptCount >= MOST_KEPT) {
            throw new IllegalStateException("5 are kept");
        }
        int start = keptCount * DOTS;
        for (int dot = 0; dot < DOTS; dot++) {
            kept[start + dot] = palette.shows(dots[dot], tick);
        }
        keptCount++;
        return keptCount - 1;
    }

    public boolean limit(int limit) throws IllegalArgumentException {
        if (limit < 0 || limit > DOTS) {
            throw new IllegalArgumentException("not 0 to 32");
        }
        this.limit = limit;
        return isBarred();
    }

    public int call() {
        refused++;
        return refused;
    }

    // ---- what is asked

    public int dot(int row, int column, int what) throws IndexOutOfBoundsException, IllegalArgumentException {
        if (!isDot(row, column)) {
            throw new IndexOutOfBoundsException("no such dot");
        }
        if (!isFact(what, DOT_FACTS)) {
            throw new IllegalArgumentException("not 0 to 3");
        }
        return dotFact(row * COLUMNS + column, what);
    }

    public int ofEntry(int entry, int what) throws IndexOutOfBoundsException, IllegalArgumentException {
        if (!isEntry(entry)) {
            throw new IndexOutOfBoundsException("no such entry");
        }
        if (!isFact(what, ENTRY_FACTS)) {
            throw new IllegalArgumentException("not 0 to 5");
        }
        return entryFact(entry, what);
    }

    public int ofRange(int range, int what) throws IndexOutOfBoundsException, IllegalArgumentException {
        Range told = palette.rangeAt(range);
        if (told == null) {
            throw new IndexOutOfBoundsException("no such range");
        }
        if (!isFact(what, RANGE_FACTS)) {
            throw new IllegalArgumentException("not 0 to 5");
        }
        return told.fact(what, tick);
    }

    public int picture(int what) throws IllegalArgumentException {
        if (!isFact(what, PICTURE_FACTS)) {
            throw new IllegalArgumentException("not 0 to 11");
        }
        return pictureFact(what);
    }

    public int period() {
        return palette.commonRound();
    }

    public String row(int row) throws IndexOutOfBoundsException {
        if (!isDot(row, 0)) {
            throw new IndexOutOfBoundsException("no such row");
        }
        StringBuilder text = new StringBuilder();
        for (int column = 0; column < COLUMNS; column++) {
            if (column > 0) {
                text.append(' ');
            }
            text.append(shownNow(row * COLUMNS + column));
        }
        return text.toString();
    }

    public double mean() {
        return (double) lightAt(tick) / (double) DOTS;
    }

    // ---- what would be

    public int at(int entry, int tick) throws IndexOutOfBoundsException, IllegalArgumentException {
        if (!isEntry(entry)) {
            throw new IndexOutOfBoundsException("no such entry");
        }
        if (!isTick(tick)) {
            throw new IllegalArgumentException("no such tick");
        }
        return palette.shows(entry, tick);
    }

    public int find(int entry, int colour, int from) throws IndexOutOfBoundsException, IllegalArgumentException {
        if (!isEntry(entry)) {
            throw new IndexOutOfBoundsException("no such entry");
        }
        if (!isColour(colour) || !isTick(from)) {
            throw new IllegalArgumentException("no such colour or tick");
        }
        return palette.firstShown(entry, colour, from);
    }

    public int meet(int one, int colour, int other, int second)
            throws IndexOutOfBoundsException, IllegalArgumentException {
        if (!isEntry(one) || !isEntry(other)) {
            throw new IndexOutOfBoundsException("no such entry");
        }
        if (!isColour(colour) || !isColour(second)) {
            throw new IllegalArgumentException("no such colour");
        }
        return palette.firstMeeting(one, colour, other, second, tick);
    }

    public int when(int kept) throws IndexOutOfBoundsException {
        if (kept < 0 || kept >= keptCount) {
            throw new IndexOutOfBoundsException("no such kept picture");
        }
        return ticksUntil(kept);
    }

    public int lightest(int ticks) throws IllegalArgumentException {
        if (!isTickCount(ticks)) {
            throw new IllegalArgumentException("not 1 to 200 ticks");
        }
        return lightestTick(ticks);
    }

    public boolean isSound() {
        return palette.comesRound(tick)
                && palette.areStillAtBase(tick)
                && palette.areTwinsAlike(tick)
                && kinds() <= usedEntries()
                && palette.areRangesApart();
    }

    public long digest() {
        long sum = 7121L;
        for (int what = 0; what < PICTURE_FACTS; what++) {
            sum = mixed(sum, pictureFact(what));
        }
        sum = mixed(sum, palette.commonRound());
        for (int entry = 0; entry < ENTRIES; entry++) {
            for (int what = 0; what < ENTRY_FACTS; what++) {
                sum = mixed(sum, entryFact(entry, what));
            }
        }
        for (int number = 0; number < MOST_RANGES; number++) {
            Range told = palette.rangeAt(number);
            for (int what = 0; what < RANGE_FACTS && told != null; what++) {
                sum = mixed(sum, told.fact(what, tick));
            }
        }
        for (int dot = 0; dot < DOTS; dot++) {
            for (int what = 0; what < DOT_FACTS; what++) {
                sum = mixed(sum, dotFact(dot, what));
            }
        }
        sum = mixed(sum, palette.firstShown(1, 2, tick));
        sum = mixed(sum, palette.firstMeeting(1, 3, 5, 5, tick));
        for (int number = 0; number < keptCount; number++) {
            sum = mixed(sum, ticksUntil(number));
        }
        sum = mixed(sum, lightestTick(30));
        sum = mixed(sum, (long) (16.0 * mean()));
        return mixed(sum, isSound() ? 1L : 0L);
    }

    // ---- what the calls share

    private static boolean isEntry(int entry) {
        return entry >= 0 && entry < ENTRIES;
    }

    private static boolean isColour(int colour) {
        return colour >= 0 && colour < COLOURS;
    }

    private static boolean isDot(int row, int column) {
        return row >= 0 && row < ROWS && column >= 0 && column < COLUMNS;
    }

    private static boolean isSpeed(int speed) {
        return speed >= 1 && speed <= MOST_SPEED;
    }

    private static boolean isKind(int kind) {
        return kind >= 0 && kind <= SWING;
    }

    private static boolean isTick(int tick) {
        return tick >= 0 && tick <= MOST_TICK;
    }

    private static boolean isTickCount(int ticks) {
        return ticks >= 1 && ticks <= MOST_TICKS;
    }

    private static boolean isFact(int what, int facts) {
        return what >= 0 && what < facts;
    }

    private static long mixed(long sum, long value) {
        return sum * 31L + value;
    }

    private static int lightOf(int colour) {
        return 2 * (colour / 16) + 3 * (colour / 4 % 4) + colour % 4;
    }

    /** Returns whether the dot had another entry. */
    private boolean giveEntry(int dot, int entry) {
        int before = entryOf(dot);
        if (!isEntry(before) || !isEntry(entry) || before == entry) {
            return false;
        }
        dots[dot] = entry;
        uses[before]--;
        uses[entry]++;
        return true;
    }

    private int entryOf(int dot) {
        return dot >= 0 && dot < dots.length ? dots[dot] : NONE;
    }

    private int usesOf(int entry) {
        return isEntry(entry) ? uses[entry] : 0;
    }

    private int shownNow(int dot) {
        return palette.shows(entryOf(dot), tick);
    }

    private int dotFact(int dot, int what) {
        switch (what) {
            case 0:
                return entryOf(dot);
            case 1:
                return shownNow(dot);
            case 2:
                return lightOf(shownNow(dot));
            default:
                return palette.changes(entryOf(dot), tick, FLICKER_TICKS);
        }
    }

    private int entryFact(int entry, int what) {
        switch (what) {
            case 0:
                return palette.baseOf(entry);
            case 1:
                return palette.shows(entry, tick);
            case 2:
                return palette.rangeNumber(entry);
            case 3:
                return palette.isStill(entry) ? 1 : 0;
            case 4:
                return palette.twins(entry);
            default:
                return usesOf(entry);
        }
    }

    private int pictureFact(int what) {
        switch (what) {
            case 0:
                return tick;
            case 1:
                return palette.ranges();
            case 2:
                return usedEntries();
            case 3:
                return kinds();
            case 4:
                return lightAt(tick);
            case 5:
                return lightOfLightestRow();
            case 6:
                return flickeringDots();
            case 7:
                return isBarred() ? 1 : 0;
            case 8:
                return limit;
            case 9:
                return keptCount;
            case 10:
                return coloursShown();
            default:
                return refused;
        }
    }

    private int usedEntries() {
        int used = 0;
        for (int entry = 0; entry < ENTRIES; entry++) {
            if (uses[entry] > 0) {
                used++;
            }
        }
        return used;
    }

    private int kinds() {
        int smallest = 0;
        for (int entry = 0; entry < ENTRIES; entry++) {
            if (uses[entry] > 0) {
                smallest |= 1 << palette.smallestTwin(entry);
            }
        }
        return Integer.bitCount(smallest);
    }

    private int lightAt(int when) {
        int light = 0;
        for (int entry = 0; entry < ENTRIES; entry++) {
            if (uses[entry] > 0) {
                light += uses[entry] * lightOf(palette.shows(entry, when));
            }
        }
        return light;
    }

    private int lightOfLightestRow() {
        int most = 0;
        for (int row = 0; row < ROWS; row++) {
            int light = 0;
            for (int column = 0; column < COLUMNS; column++) {
                light += lightOf(shownNow(row * COLUMNS + column));
            }
            most = Math.max(most, light);
        }
        return most;
    }

    private int flickeringDots() {
        int flickering = 0;
        for (int entry = 0; entry < ENTRIES; entry++) {
            if (uses[entry] > 0 && palette.changes(entry, tick, FLICKER_TICKS) > CALM_FLICKER) {
                flickering += uses[entry];
            }
        }
        return flickering;
    }

    private boolean isBarred() {
        return flickeringDots() > limit;
    }

    private int coloursShown() {
        long shown = 0L;
        for (int entry = 0; entry < ENTRIES; entry++) {
            if (uses[entry] > 0) {
                shown |= 1L << palette.shows(entry, tick);
            }
        }
        return Long.bitCount(shown);
    }

    private int ticksUntil(int number) {
        for (int ahead = 0; ahead <= WHEN_TICKS; ahead++) {
            if (showsKept(number, tick + ahead)) {
                return ahead;
            }
        }
        return NONE;
    }

    private boolean showsKept(int number, int when) {
        if (number < 0 || number >= MOST_KEPT) {
            return false;
        }
        int start = number * DOTS;
        for (int dot = 0; dot < DOTS; dot++) {
            if (palette.shows(dots[dot], when) != kept[start + dot]) {
                return false;
            }
        }
        return true;
    }

    private int lightestTick(int ticks) {
        int best = tick;
        int most = lightAt(tick);
        for (int ahead = 1; ahead < ticks; ahead++) {
            int light = lightAt(tick + ahead);
            if (light > most) {
                most = light;
                best = tick + ahead;
            }
        }
        return best;
    }

    /** Entries that turn together. */
    private static final class Range {
        private final int first;
        private final int length;
        private int speed;
        private int kind;
        /** In how many steps the shift comes round. */
        private int cycle;

        Range(int from, int to, int speed, int kind) {
            this.first = from;
            this.length = to - from + 1;
            tell(speed, kind);
        }

        void tell(int newSpeed, int newKind) {
            speed = newSpeed;
            kind = newKind;
            cycle = newKind == SWING ? 2 * length - 2 : length;
        }

        boolean holds(int entry) {
            return entry >= first && entry < first + length;
        }

        int round() {
            return speed * cycle;
        }

        int shift(int when) {
            if (speed < 1 || cycle < 1) {
                return 0;
            }
            int step = when / speed % cycle;
            if (kind == BACK) {
                return step == 0 ? 0 : length - step;
            }
            // A step of length or more comes only on the way back of a swing.
            return step < length ? step : cycle - step;
        }

        /** The entry whose base the given one of these shows at that shift. */
        int source(int entry, int shift) {
            int place = entry - first - shift;
            return place < 0 ? first + place + length : first + place;
        }

        int fact(int what, int when) {
            switch (what) {
                case 0:
                    return first;
                case 1:
                    return length;
                case 2:
                    return speed;
                case 3:
                    return kind;
                case 4:
                    return shift(when);
                default:
                    return round();
            }
        }
    }

    /** All that is told of entries and ranges, and what follows from it at any tick. */
    private static final class Palette {
        private final int[] base = new int[ENTRIES];
        /** The number of each entry's range: found anew whenever a range comes or goes. */
        private final int[] rangeOf = new int[ENTRIES];
        private final Range[] ranges = new Range[MOST_RANGES];
        private int count = 0;

        Palette() {
            for (int entry = 0; entry < ENTRIES; entry++) {
                base[entry] = entry;
                rangeOf[entry] = NONE;
            }
        }

        int ranges() {
            return count;
        }

        /** Null, if there is no such range. */
        Range rangeAt(int number) {
            return number >= 0 && number < ranges.length ? ranges[number] : null;
        }

        int rangeNumber(int entry) {
            return entry >= 0 && entry < rangeOf.length ? rangeOf[entry] : NONE;
        }

        int baseOf(int entry) {
            return entry >= 0 && entry < base.length ? base[entry] : 0;
        }

        void tellBase(int entry, int colour) {
            if (entry >= 0 && entry < base.length) {
                base[entry] = colour;
            }
        }

        boolean isFree(int from, int to) {
            for (int entry = 0; entry < ENTRIES; entry++) {
                if (entry >= from && entry <= to && rangeOf[entry] != NONE) {
                    return false;
                }
            }
            return true;
        }

        /** Returns the number of the new range: the last one. */
        int addRange(Range fresh) {
            if (count < 0 || count >= MOST_RANGES) {
                return NONE;
            }
            ranges[count] = fresh;
            count++;
            numberEntries();
            return count - 1;
        }

        void removeRange(int number) {
            if (rangeAt(number) == null) {
                return;
            }
            for (int behind = number + 1; behind < MOST_RANGES; behind++) {
                ranges[behind - 1] = ranges[behind];
            }
            ranges[MOST_RANGES - 1] = null;
            count--;
            numberEntries();
        }

        private void numberEntries() {
            for (int entry = 0; entry < ENTRIES; entry++) {
                rangeOf[entry] = NONE;
                for (int number = 0; number < MOST_RANGES; number++) {
                    if (ranges[number] != null && ranges[number].holds(entry)) {
                        rangeOf[entry] = number;
                    }
                }
            }
        }

        int shows(int entry, int when) {
            Range range = rangeAt(rangeNumber(entry));
            return baseOf(range == null ? entry : range.source(entry, range.shift(when)));
        }

        /** In how many of the ticks behind the given one the entry shows another colour than in the one before. */
        int changes(int entry, int from, int ticks) {
            int changes = 0;
            int before = shows(entry, from);
            for (int ahead = 1; ahead <= ticks; ahead++) {
                int colour = shows(entry, from + ahead);
                if (colour != before) {
                    changes++;
                }
                before = colour;
            }
            return changes;
        }

        /** In a range each place comes to the entry at some time, so that one other colour there unsettles it. */
        boolean isStill(int entry) {
            Range range = rangeAt(rangeNumber(entry));
            for (int other = 0; other < ENTRIES; other++) {
                if (range != null && range.holds(other) && base[other] != baseOf(entry)) {
                    return false;
                }
            }
            return true;
        }

        /**
         * Two endless rows of colours that come round after a and after b ticks
         * are the same everywhere, if they are in the first a + b (Fine and Wilf).
         */
        boolean areTwins(int one, int other) {
            int ticks = roundOf(one) + roundOf(other);
            for (int when = 0; when < ticks; when++) {
                if (shows(one, when) != shows(other, when)) {
                    return false;
                }
            }
            return true;
        }

        int smallestTwin(int entry) {
            for (int other = 0; other < entry; other++) {
                if (areTwins(other, entry)) {
                    return other;
                }
            }
            return entry;
        }

        int twins(int entry) {
            int set = 0;
            for (int other = 0; other < ENTRIES; other++) {
                if (areTwins(other, entry)) {
                    set |= 1 << other;
                }
            }
            return set;
        }

        /** After how many ticks the entry shows the same again, at the latest. */
        private int roundOf(int entry) {
            Range range = rangeAt(rangeNumber(entry));
            return range == null ? 1 : range.round();
        }

        int commonRound() {
            int common = 1;
            for (int number = 0; number < MOST_RANGES; number++) {
                if (ranges[number] != null) {
                    common = leastCommonMultiple(common, ranges[number].round());
                }
            }
            return common;
        }

        int firstShown(int entry, int colour, int from) {
            int round = roundOf(entry);
            for (int ahead = 0; ahead < round; ahead++) {
                if (shows(entry, from + ahead) == colour) {
                    return from + ahead;
                }
            }
            return NONE;
        }

        /** In how many ticks from the given one both entries show their colours. */
        int firstMeeting(int one, int colour, int other, int second, int from) {
            int round = leastCommonMultiple(roundOf(one), roundOf(other));
            for (int ahead = 0; ahead < round; ahead++) {
                if (shows(one, from + ahead) == colour && shows(other, from + ahead) == second) {
                    return ahead;
                }
            }
            return NONE;
        }

        boolean comesRound(int when) {
            int again = when + commonRound();
            for (int entry = 0; entry < ENTRIES; entry++) {
                if (shows(entry, again) != shows(entry, when)) {
                    return false;
                }
            }
            return true;
        }

        boolean areStillAtBase(int when) {
            for (int entry = 0; entry < ENTRIES; entry++) {
                if (isStill(entry) && shows(entry, when) != base[entry]) {
                    return false;
                }
            }
            return true;
        }

        boolean areTwinsAlike(int when) {
            for (int entry = 0; entry < ENTRIES; entry++) {
                for (int other = 0; other < entry; other++) {
                    if (areTwins(entry, other) && shows(entry, when) != shows(other, when)) {
                        return false;
                    }
                }
            }
            return true;
        }

        boolean areRangesApart() {
            for (int entry = 0; entry < ENTRIES; entry++) {
                int holders = 0;
                for (int number = 0; number < MOST_RANGES; number++) {
                    if (ranges[number] != null && ranges[number].holds(entry)) {
                        holders++;
                    }
                }
                if (holders > 1) {
                    return false;
                }
            }
            return true;
        }

        private static int leastCommonMultiple(int one, int other) {
            int divisor = greatestCommonDivisor(one, other);
            return divisor < 1 ? 1 : one / divisor * other;
        }

        private static int greatestCommonDivisor(int one, int other) {
            int large = one;
            int small = other;
            for (int step = 0; step < MOST_GCD_STEPS && small > 0; step++) {
                int rest = large % small;
                large = small;
                small = rest;
            }
            return large;
        }
    }
}
