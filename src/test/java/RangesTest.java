/** Promises 4 (range), 5 (turn) and 6 (stop). */
public final class RangesTest {
    public static void main(String[] args) {
        range();
        rangeRefuses();
        kindsOfTurning();
        swingOfTwo();
        turn();
        turnRefuses();
        stop();
        stopRefuses();
        Checks.end("RangesTest");
    }

    private static void range() {
        Cyclepaint x = new Cyclepaint();
        Checks.due("range(14, 15, 9, 2)", x.range(14, 15, 9, 2), 0);
        Checks.due("range(0, 1, 1, 0)", x.range(0, 1, 1, 0), 1);
        Checks.due("range(2, 13, 5, 1)", x.range(2, 13, 5, 1), 2);
        Checks.due("ranges", x.picture(1), 3);
        Checks.due("range of 13", x.ofEntry(13, 2), 2);
        Checks.due("range of 14", x.ofEntry(14, 2), 0);
        Checks.due("a range of all", new Cyclepaint().range(0, 15, 1, 0), 0);
    }

    private static void rangeRefuses() {
        Cyclepaint x = new Cyclepaint();
        x.range(4, 6, 1, 0);
        long before = x.digest();
        Checks.noEntryOrPlace("range(-1, 2, 1, 0)", () -> x.range(-1, 2, 1, 0));
        Checks.noEntryOrPlace("range(2, 16, 1, 0)", () -> x.range(2, 16, 1, 0));
        Checks.noEntryOrPlace("range(16, 2, 0, 3)", () -> x.range(16, 2, 0, 3));
        Checks.noEntryOrPlace("range(2, -1, 1, 0)", () -> x.range(2, -1, 1, 0));
        Checks.noSuchValue("range(2, 2, 1, 0)", () -> x.range(2, 2, 1, 0));
        Checks.noSuchValue("range(3, 2, 1, 0)", () -> x.range(3, 2, 1, 0));
        Checks.noSuchValue("range(2, 3, 0, 0)", () -> x.range(2, 3, 0, 0));
        Checks.noSuchValue("range(2, 3, 10, 0)", () -> x.range(2, 3, 10, 0));
        Checks.noSuchValue("range(2, 3, 1, -1)", () -> x.range(2, 3, 1, -1));
        Checks.noSuchValue("range(2, 3, 1, 3)", () -> x.range(2, 3, 1, 3));
        Checks.noSuchValue("range(4, 5, 10, 0), though in a range", () -> x.range(4, 5, 10, 0));
        Checks.notNow("range(2, 4, 1, 0)", () -> x.range(2, 4, 1, 0));
        Checks.notNow("range(6, 7, 1, 0)", () -> x.range(6, 7, 1, 0));
        Checks.notNow("range(3, 7, 1, 0)", () -> x.range(3, 7, 1, 0));
        Checks.notNow("range(5, 6, 1, 0)", () -> x.range(5, 6, 1, 0));
        Checks.due("nothing was changed", x.digest(), before);
        Checks.due("range(2, 3, 9, 2)", x.range(2, 3, 9, 2), 1);
        Checks.due("range(7, 8, 9, 2)", x.range(7, 8, 9, 2), 2);
        Checks.due("range(9, 10, 9, 2)", x.range(9, 10, 9, 2), 3);
        Checks.notNow("a fifth one", () -> x.range(11, 12, 1, 0));
    }

    private static void kindsOfTurning() {
        Cyclepaint x = new Cyclepaint();
        x.paint(0, 0, 0, 3);
        x.paint(0, 1, 1, 4);
        x.paint(0, 2, 2, 5);
        x.paint(0, 3, 3, 6);
        x.range(3, 6, 2, 0);
        rows(x, "forward", 0, "3 4 5 6", "3 4 5 6", "6 3 4 5", "6 3 4 5", "5 6 3 4");
        rows(x, "forward, round", 6, "4 5 6 3", "4 5 6 3", "3 4 5 6");
        x.turn(0, 1, 1);
        rows(x, "back", 0, "3 4 5 6", "4 5 6 3", "5 6 3 4", "6 3 4 5", "3 4 5 6", "4 5 6 3");
        x.turn(0, 1, 2);
        rows(x, "swing", 0, "3 4 5 6", "6 3 4 5", "5 6 3 4", "4 5 6 3", "5 6 3 4", "6 3 4 5", "3 4 5 6", "6 3 4 5");
    }

    private static void rows(Cyclepaint x, String kind, int from, String... want) {
        for (int ahead = 0; ahead < want.length; ahead++) {
            x.jump(from + ahead);
            Checks.due(kind + " at " + (from + ahead), x.row(0), want[ahead] + " 0 0 0 0");
        }
    }

    private static void swingOfTwo() {
        Cyclepaint x = new Cyclepaint();
        x.range(0, 1, 3, 2);
        int[] shifts = {0, 0, 0, 1, 1, 1, 0, 0, 0, 1};
        for (int tick = 0; tick < shifts.length; tick++) {
            x.jump(tick);
            Checks.due("swing of two at " + tick, x.ofRange(0, 4), shifts[tick]);
        }
        Checks.due("its round", x.ofRange(0, 5), 6);
    }

    private static void turn() {
        Cyclepaint x = new Cyclepaint();
        x.range(2, 5, 1, 0);
        x.range(8, 10, 1, 0);
        x.jump(7);
        Checks.due("turn(0, 1, 0)", x.turn(0, 1, 0), 3);
        Checks.due("turn(0, 1, 1)", x.turn(0, 1, 1), 1);
        Checks.due("turn(0, 2, 2)", x.turn(0, 2, 2), 3);
        Checks.due("turn(0, 9, 1)", x.turn(0, 9, 1), 0);
        Checks.due("turn(1, 3, 1)", x.turn(1, 3, 1), 1);
        Checks.due("speed of 0", x.ofRange(0, 2), 9);
        Checks.due("kind of 0", x.ofRange(0, 3), 1);
        Checks.due("speed of 1", x.ofRange(1, 2), 3);
        Checks.due("round of 1", x.ofRange(1, 5), 9);
        Checks.due("8 shows", x.ofEntry(8, 1), 10);
    }

    private static void turnRefuses() {
        Cyclepaint x = new Cyclepaint();
        Checks.noEntryOrPlace("turn(0, 1, 0) without one", () -> x.turn(0, 1, 0));
        x.range(2, 5, 2, 1);
        long before = x.digest();
        Checks.noEntryOrPlace("turn(1, 1, 0)", () -> x.turn(1, 1, 0));
        Checks.noEntryOrPlace("turn(-1, 0, 3)", () -> x.turn(-1, 0, 3));
        Checks.noEntryOrPlace("turn(4, 1, 0)", () -> x.turn(4, 1, 0));
        Checks.noSuchValue("turn(0, 0, 0)", () -> x.turn(0, 0, 0));
        Checks.noSuchValue("turn(0, 10, 0)", () -> x.turn(0, 10, 0));
        Checks.noSuchValue("turn(0, 1, 3)", () -> x.turn(0, 1, 3));
        Checks.noSuchValue("turn(0, 1, -1)", () -> x.turn(0, 1, -1));
        Checks.due("nothing was changed", x.digest(), before);
    }

    private static void stop() {
        Cyclepaint x = new Cyclepaint();
        x.range(0, 1, 1, 0);
        x.range(4, 6, 2, 1);
        x.range(8, 11, 3, 2);
        x.range(13, 14, 4, 0);
        x.jump(5);
        Checks.due("stop(1)", x.stop(1), 3);
        Checks.due("the third is the second", x.ofRange(1, 0), 8);
        Checks.due("the fourth is the third", x.ofRange(2, 0), 13);
        Checks.due("its speed goes with it", x.ofRange(2, 2), 4);
        Checks.due("4 has no range", x.ofEntry(4, 2), -1);
        Checks.due("4 shows its base", x.ofEntry(4, 1), 4);
        Checks.due("14 is in the third", x.ofEntry(14, 2), 2);
        Checks.noEntryOrPlace("there is no fourth", () -> x.ofRange(3, 0));
        Checks.due("4 to 6 are free again", x.range(3, 5, 1, 0), 3);
        Checks.due("stop(0)", x.stop(0), 3);
        Checks.due("stop(2)", x.stop(2), 2);
        Checks.due("stop(0)", x.stop(0), 1);
        Checks.due("stop(0), the last", x.stop(0), 0);
        Checks.due("period()", x.period(), 1);
    }

    private static void stopRefuses() {
        Cyclepaint x = new Cyclepaint();
        Checks.noEntryOrPlace("stop(0) without one", () -> x.stop(0));
        x.range(0, 1, 1, 0);
        long before = x.digest();
        Checks.noEntryOrPlace("stop(1)", () -> x.stop(1));
        Checks.noEntryOrPlace("stop(-1)", () -> x.stop(-1));
        Checks.noEntryOrPlace("stop(4)", () -> x.stop(4));
        Checks.due("nothing was changed", x.digest(), before);
    }
}
