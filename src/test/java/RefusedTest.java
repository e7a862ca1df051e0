/**
 * The 'Throws' lines of all promises: a value one too small, one too large, and far off; the exception that is
 * named first; and that nothing at all is changed, whether nothing is there, something is, or all is full.
 */
public final class RefusedTest {
    private static final String PLACE = "IndexOutOfBoundsException";
    private static final String VALUE = "IllegalArgumentException";
    private static final String STATE = "IllegalStateException";
    private static final int LEAST = Integer.MIN_VALUE;
    private static final int MOST = Integer.MAX_VALUE;

    /** A call that is to be refused. */
    private interface Call {
        void on(Cyclepaint x);
    }

    public static void main(String[] args) {
        colour();
        paint();
        paintOfNoDots();
        rangeOfNoEntry();
        rangeOfNoValue();
        rangeOfNoPlace();
        turn();
        stop();
        run();
        runTooLate();
        jump();
        keep();
        limit();
        dot();
        ofEntry();
        ofRange();
        pictureAndRow();
        at();
        find();
        meet();
        when();
        lightest();
        Checks.end("RefusedTest");
    }

    /** One and two too small, one and two too large, and as far off as can be. */
    private static int[] off(int least, int greatest) {
        return new int[] {least - 1, least - 2, greatest + 1, greatest + 2, LEAST, MOST};
    }

    private static void everywhere(String name, String want, Call call) {
        refused(name + ", empty", Pictures::empty, want, call);
        refused(name + ", busy", Pictures::busy, want, call);
        refused(name + ", full", Pictures::full, want, call);
    }

    private static void refused(String name, Pictures.Maker state, String want, Call call) {
        Cyclepaint x = state.make();
        String got = "nothing";
        try {
            call.on(x);
        } catch (RuntimeException e) {
            got = e.getClass().getSimpleName();
        }
        Checks.due(name + " throws", got, want);
        Checks.due(name + " changes nothing", Pictures.allOf(x), Pictures.allOf(state.make()));
    }

    private static void colour() {
        for (int entry : off(0, 15)) {
            everywhere("colour(" + entry + ", 1)", PLACE, x -> x.colour(entry, 1));
            everywhere("colour(" + entry + ", 64)", PLACE, x -> x.colour(entry, 64));
        }
        for (int colour : off(0, 63)) {
            everywhere("colour(0, " + colour + ")", VALUE, x -> x.colour(0, colour));
            everywhere("colour(15, " + colour + ")", VALUE, x -> x.colour(15, colour));
        }
    }

    private static void paint() {
        for (int row : off(0, 3)) {
            everywhere("paint(" + row + ", 0, 7, 1)", PLACE, x -> x.paint(row, 0, 7, 1));
            everywhere("paint(" + row + ", 7, 0, 16)", PLACE, x -> x.paint(row, 7, 0, 16));
        }
        for (int column : off(0, 7)) {
            everywhere("paint(3, " + column + ", 7, 1)", PLACE, x -> x.paint(3, column, 7, 1));
            everywhere("paint(0, 0, " + column + ", 1)", PLACE, x -> x.paint(0, 0, column, 1));
            everywhere("paint(0, " + column + ", " + column + ", 1)", PLACE, x -> x.paint(0, column, column, 1));
            everywhere("paint(0, " + column + ", 0, 16)", PLACE, x -> x.paint(0, column, 0, 16));
            everywhere("paint(0, 7, " + column + ", -1)", PLACE, x -> x.paint(0, 7, column, -1));
        }
        for (int entry : off(0, 15)) {
            everywhere("paint(0, 0, 0, " + entry + ")", VALUE, x -> x.paint(0, 0, 0, entry));
            everywhere("paint(3, 0, 7, " + entry + ")", VALUE, x -> x.paint(3, 0, 7, entry));
        }
    }

    private static void paintOfNoDots() {
        for (int from = 1; from < 8; from++) {
            int first = from;
            everywhere("paint(0, " + from + ", one less, 1)", VALUE, x -> x.paint(0, first, first - 1, 1));
            everywhere("paint(3, " + from + ", 0, 15)", VALUE, x -> x.paint(3, first, 0, 15));
        }
    }

    private static void rangeOfNoEntry() {
        for (int entry : off(0, 15)) {
            everywhere("range(" + entry + ", 15, 1, 0)", PLACE, x -> x.range(entry, 15, 1, 0));
            everywhere("range(0, " + entry + ", 1, 0)", PLACE, x -> x.range(0, entry, 1, 0));
            everywhere("range(" + entry + ", " + entry + ", 0, 3)", PLACE, x -> x.range(entry, entry, 0, 3));
            everywhere("range(" + entry + ", 0, 10, -1)", PLACE, x -> x.range(entry, 0, 10, -1));
            everywhere("range(15, " + entry + ", 10, -1)", PLACE, x -> x.range(15, entry, 10, -1));
        }
    }

    /** All entries are tried, those in a range too: what is no value goes ahead of what can't be now. */
    private static void rangeOfNoValue() {
        for (int entry = 0; entry < 16; entry++) {
            int to = entry;
            everywhere("range(" + to + ", the same, 1, 0)", VALUE, x -> x.range(to, to, 1, 0));
            everywhere("range(one more than " + to + ", 9, 2)", VALUE, x -> x.range(Math.min(15, to + 1), to, 9, 2));
        }
        everywhere("range(15, 0, 1, 0)", VALUE, x -> x.range(15, 0, 1, 0));
        for (int speed : off(1, 9)) {
            everywhere("range(14, 15, " + speed + ", 0)", VALUE, x -> x.range(14, 15, speed, 0));
            everywhere("range(0, 15, " + speed + ", 2)", VALUE, x -> x.range(0, 15, speed, 2));
        }
        for (int kind : off(0, 2)) {
            everywhere("range(14, 15, 1, " + kind + ")", VALUE, x -> x.range(14, 15, 1, kind));
            everywhere("range(0, 15, 9, " + kind + ")", VALUE, x -> x.range(0, 15, 9, kind));
        }
    }

    /** A busy one has ranges of 4 to 6 and 9 to 12. */
    private static void rangeOfNoPlace() {
        refused("range over a range's first", Pictures::busy, STATE, x -> x.range(3, 4, 1, 0));
        refused("range over a range's last", Pictures::busy, STATE, x -> x.range(6, 7, 1, 0));
        refused("range within a range", Pictures::busy, STATE, x -> x.range(5, 6, 1, 0));
        refused("range of the same entries", Pictures::busy, STATE, x -> x.range(4, 6, 2, 1));
        refused("range around a range", Pictures::busy, STATE, x -> x.range(3, 7, 1, 0));
        refused("range over the later one's first", Pictures::busy, STATE, x -> x.range(7, 9, 1, 0));
        refused("range over the later one's last", Pictures::busy, STATE, x -> x.range(12, 15, 1, 0));
        refused("range over both", Pictures::busy, STATE, x -> x.range(6, 9, 1, 0));
        refused("range of all", Pictures::busy, STATE, x -> x.range(0, 15, 9, 2));
        refused("a fifth range of free entries", Pictures::full, STATE, x -> x.range(12, 15, 1, 0));
        refused("a fifth range of a taken entry", Pictures::full, STATE, x -> x.range(11, 12, 1, 0));
    }

    /** There are 0, 2 and 4 ranges: none at all has a number, and none the number behind the last. */
    private static void turn() {
        int[][] missing = {off(0, -1), off(0, 1), off(0, 3)};
        Pictures.Maker[] states = {Pictures::empty, Pictures::busy, Pictures::full};
        for (int state = 0; state < states.length; state++) {
            for (int range : missing[state]) {
                String name = state + " of no range " + range;
                refused("turn " + name, states[state], PLACE, x -> x.turn(range, 1, 0));
                refused("turn, speed 0, " + name, states[state], PLACE, x -> x.turn(range, 0, 0));
                refused("turn, kind 3, " + name, states[state], PLACE, x -> x.turn(range, 1, 3));
            }
        }
        for (int speed : off(1, 9)) {
            refused("turn(0, " + speed + ", 0)", Pictures::busy, VALUE, x -> x.turn(0, speed, 0));
            refused("turn(3, " + speed + ", 2)", Pictures::full, VALUE, x -> x.turn(3, speed, 2));
        }
        for (int kind : off(0, 2)) {
            refused("turn(1, 1, " + kind + ")", Pictures::busy, VALUE, x -> x.turn(1, 1, kind));
            refused("turn(0, 9, " + kind + ")", Pictures::full, VALUE, x -> x.turn(0, 9, kind));
        }
    }

    private static void stop() {
        for (int range : off(0, -1)) {
            refused("stop(" + range + ") of none", Pictures::empty, PLACE, x -> x.stop(range));
        }
        for (int range : off(0, 1)) {
            refused("stop(" + range + ") of two", Pictures::busy, PLACE, x -> x.stop(range));
        }
        for (int range : off(0, 3)) {
            refused("stop(" + range + ") of four", Pictures::full, PLACE, x -> x.stop(range));
        }
    }

    /** A full one is at 99999, so that its tick would be too late too: the value is named first. */
    private static void run() {
        for (int ticks : off(1, 200)) {
            everywhere("run(" + ticks + ")", VALUE, x -> x.run(ticks));
        }
    }

    private static Cyclepaint busyAt(int tick) {
        Cyclepaint x = Pictures.busy();
        x.jump(tick);
        return x;
    }

    private static void runTooLate() {
        refused("run(1) from 99999", Pictures::full, STATE, x -> x.run(1));
        refused("run(200) from 99999", Pictures::full, STATE, x -> x.run(200));
        refused("run(2) from 99998", () -> busyAt(99998), STATE, x -> x.run(2));
        refused("run(101) from 99899", () -> busyAt(99899), STATE, x -> x.run(101));
        refused("run(200) from 99800", () -> busyAt(99800), STATE, x -> x.run(200));
        refused("run(201) from 99800", () -> busyAt(99800), VALUE, x -> x.run(201));
    }

    private static void jump() {
        for (int tick : off(0, 99999)) {
            everywhere("jump(" + tick + ")", VALUE, x -> x.jump(tick));
        }
    }

    private static void keep() {
        refused("a sixth keep()", Pictures::full, STATE, x -> x.keep());
    }

    private static void limit() {
        for (int limit : off(0, 32)) {
            everywhere("limit(" + limit + ")", VALUE, x -> x.limit(limit));
        }
    }

    private static void dot() {
        for (int row : off(0, 3)) {
            everywhere("dot(" + row + ", 0, 0)", PLACE, x -> x.dot(row, 0, 0));
            everywhere("dot(" + row + ", 7, 4)", PLACE, x -> x.dot(row, 7, 4));
        }
        for (int column : off(0, 7)) {
            everywhere("dot(0, " + column + ", 3)", PLACE, x -> x.dot(0, column, 3));
            everywhere("dot(3, " + column + ", -1)", PLACE, x -> x.dot(3, column, -1));
        }
        for (int what : off(0, 3)) {
            everywhere("dot(0, 0, " + what + ")", VALUE, x -> x.dot(0, 0, what));
            everywhere("dot(3, 7, " + what + ")", VALUE, x -> x.dot(3, 7, what));
        }
    }

    private static void ofEntry() {
        for (int entry : off(0, 15)) {
            everywhere("ofEntry(" + entry + ", 5)", PLACE, x -> x.ofEntry(entry, 5));
            everywhere("ofEntry(" + entry + ", 6)", PLACE, x -> x.ofEntry(entry, 6));
        }
        for (int what : off(0, 5)) {
            everywhere("ofEntry(0, " + what + ")", VALUE, x -> x.ofEntry(0, what));
            everywhere("ofEntry(15, " + what + ")", VALUE, x -> x.ofEntry(15, what));
        }
    }

    private static void ofRange() {
        int[][] missing = {off(0, -1), off(0, 1), off(0, 3)};
        Pictures.Maker[] states = {Pictures::empty, Pictures::busy, Pictures::full};
        for (int state = 0; state < states.length; state++) {
            for (int range : missing[state]) {
                String name = state + ": ofRange(" + range;
                refused(name + ", 0)", states[state], PLACE, x -> x.ofRange(range, 0));
                refused(name + ", 6)", states[state], PLACE, x -> x.ofRange(range, 6));
                refused(name + ", -1)", states[state], PLACE, x -> x.ofRange(range, -1));
            }
        }
        for (int what : off(0, 5)) {
            refused("ofRange(1, " + what + ")", Pictures::busy, VALUE, x -> x.ofRange(1, what));
            refused("ofRange(3, " + what + ")", Pictures::full, VALUE, x -> x.ofRange(3, what));
        }
    }

    private static void pictureAndRow() {
        for (int what : off(0, 11)) {
            everywhere("picture(" + what + ")", VALUE, x -> x.picture(what));
        }
        for (int row : off(0, 3)) {
            everywhere("row(" + row + ")", PLACE, x -> x.row(row));
        }
    }

    private static void at() {
        for (int entry : off(0, 15)) {
            everywhere("at(" + entry + ", 0)", PLACE, x -> x.at(entry, 0));
            everywhere("at(" + entry + ", 100000)", PLACE, x -> x.at(entry, 100000));
        }
        for (int tick : off(0, 99999)) {
            everywhere("at(0, " + tick + ")", VALUE, x -> x.at(0, tick));
            everywhere("at(15, " + tick + ")", VALUE, x -> x.at(15, tick));
        }
    }

    private static void find() {
        for (int entry : off(0, 15)) {
            everywhere("find(" + entry + ", 0, 0)", PLACE, x -> x.find(entry, 0, 0));
            everywhere("find(" + entry + ", 64, 0)", PLACE, x -> x.find(entry, 64, 0));
            everywhere("find(" + entry + ", 0, -1)", PLACE, x -> x.find(entry, 0, -1));
        }
        for (int colour : off(0, 63)) {
            everywhere("find(0, " + colour + ", 0)", VALUE, x -> x.find(0, colour, 0));
            everywhere("find(15, " + colour + ", 99999)", VALUE, x -> x.find(15, colour, 99999));
        }
        for (int from : off(0, 99999)) {
            everywhere("find(5, 4, " + from + ")", VALUE, x -> x.find(5, 4, from));
        }
    }

    private static void meet() {
        for (int entry : off(0, 15)) {
            everywhere("meet(" + entry + ", 0, 0, 0)", PLACE, x -> x.meet(entry, 0, 0, 0));
            everywhere("meet(0, 0, " + entry + ", 0)", PLACE, x -> x.meet(0, 0, entry, 0));
            everywhere("meet(" + entry + ", 64, 0, 0)", PLACE, x -> x.meet(entry, 64, 0, 0));
            everywhere("meet(0, -1, " + entry + ", 64)", PLACE, x -> x.meet(0, -1, entry, 64));
        }
        for (int colour : off(0, 63)) {
            everywhere("meet(0, " + colour + ", 15, 0)", VALUE, x -> x.meet(0, colour, 15, 0));
            everywhere("meet(15, 63, 0, " + colour + ")", VALUE, x -> x.meet(15, 63, 0, colour));
        }
    }

    /** 0, 2 and 5 are kept. */
    private static void when() {
        for (int number : off(0, -1)) {
            refused("when(" + number + ") of none", Pictures::empty, PLACE, x -> x.when(number));
        }
        for (int number : off(0, 1)) {
            refused("when(" + number + ") of two", Pictures::busy, PLACE, x -> x.when(number));
        }
        for (int number : off(0, 4)) {
            refused("when(" + number + ") of five", Pictures::full, PLACE, x -> x.when(number));
        }
    }

    private static void lightest() {
        for (int ticks : off(1, 200)) {
            everywhere("lightest(" + ticks + ")", VALUE, x -> x.lightest(ticks));
        }
    }
}
