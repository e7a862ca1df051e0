/** Promises 13 (dot), 14 (ofEntry), 15 (ofRange), 16 (picture), 17 (period), 18 (row) and 19 (mean). */
public final class AskedTest {
    public static void main(String[] args) {
        dot();
        lightOfAll();
        flicker();
        flickerOfEleven();
        ofEntry();
        still();
        twins();
        ofRange();
        picture();
        period();
        row();
        mean();
        Checks.end("AskedTest");
    }

    private static void dot() {
        Cyclepaint x = new Cyclepaint();
        x.colour(9, 63);
        x.colour(10, 27);
        x.range(9, 10, 4, 0);
        x.paint(3, 7, 7, 9);
        Checks.due("entry", x.dot(3, 7, 0), 9);
        Checks.due("colour", x.dot(3, 7, 1), 63);
        Checks.due("light of 63", x.dot(3, 7, 2), 6 + 9 + 3);
        x.run(4);
        Checks.due("entry stays", x.dot(3, 7, 0), 9);
        Checks.due("colour of the other", x.dot(3, 7, 1), 27);
        Checks.due("light of 27", x.dot(3, 7, 2), 2 + 6 + 3);
        Checks.due("light of 0", x.dot(0, 0, 2), 0);
        x.colour(0, 36);
        Checks.due("light of 36", x.dot(0, 0, 2), 4 + 3);
        Checks.noEntryOrPlace("dot(-1, 0, 0)", () -> x.dot(-1, 0, 0));
        Checks.noEntryOrPlace("dot(4, 0, 0)", () -> x.dot(4, 0, 0));
        Checks.noEntryOrPlace("dot(0, -1, 0)", () -> x.dot(0, -1, 0));
        Checks.noEntryOrPlace("dot(0, 8, 4)", () -> x.dot(0, 8, 4));
        Checks.noSuchValue("dot(0, 0, 4)", () -> x.dot(0, 0, 4));
        Checks.noSuchValue("dot(0, 0, -1)", () -> x.dot(0, 0, -1));
    }

    private static void lightOfAll() {
        Cyclepaint x = new Cyclepaint();
        int[] ofPart = {0, 1, 2, 3};
        for (int red : ofPart) {
            for (int green : ofPart) {
                for (int blue : ofPart) {
                    int colour = red * 16 + green * 4 + blue;
                    x.colour(0, colour);
                    Checks.due("light of " + colour, x.dot(2, 5, 2), red + red + green + green + green + blue);
                }
            }
        }
    }

    /** 11 is the least that is above 10. */
    private static void flickerOfEleven() {
        Cyclepaint x = new Cyclepaint();
        int[] bases = {0, 1, 2, 3, 3, 3, 3, 3, 4, 4, 5, 6, 7, 8, 9, 10};
        for (int entry = 0; entry < 16; entry++) {
            x.colour(entry, bases[entry]);
        }
        x.range(0, 15, 2, 0);
        // 15 steps, from place 0 to 15, 14 and on to 1: five of them go between places of one colour.
        Checks.due("flicker of ten", x.dot(0, 0, 3), 10);
        Checks.due("no dot is above 10", x.picture(6), 0);
        x.colour(8, 11);
        Checks.due("flicker of eleven", x.dot(0, 0, 3), 11);
        Checks.due("all dots are above 10", x.picture(6), 32);
        Checks.due("limit(31)", x.limit(31), true);
        Checks.due("limit(32)", x.limit(32), false);
    }

    private static void flicker() {
        Cyclepaint x = new Cyclepaint();
        Checks.due("of a still dot", x.dot(0, 0, 3), 0);
        x.range(0, 3, 1, 1);
        Checks.due("of a speed of 1", x.dot(0, 0, 3), 30);
        x.turn(0, 9, 1);
        Checks.due("of a speed of 9", x.dot(0, 0, 3), 3);
        x.jump(6);
        Checks.due("of a speed of 9 from 6 on: 9, 18, 27, 36", x.dot(0, 0, 3), 4);
        x.jump(8);
        Checks.due("the next tick counts", x.dot(0, 0, 3), 4);
        x.jump(9);
        Checks.due("this tick does not", x.dot(0, 0, 3), 3);
        x.jump(99999);
        x.turn(0, 1, 0);
        Checks.due("above 99999", x.dot(0, 0, 3), 30);
        x.colour(1, 0);
        x.colour(3, 2);
        Checks.due("alike neighbours do not flicker", x.dot(0, 0, 3), 15);
    }

    private static void ofEntry() {
        Cyclepaint x = new Cyclepaint();
        x.range(5, 6, 1, 0);
        x.range(1, 3, 1, 0);
        x.paint(1, 1, 6, 3);
        x.run(1);
        Checks.due("base of 3", x.ofEntry(3, 0), 3);
        Checks.due("3 shows", x.ofEntry(3, 1), 2);
        Checks.due("1 shows", x.ofEntry(1, 1), 3);
        Checks.due("15 shows", x.ofEntry(15, 1), 15);
        Checks.due("range of 3", x.ofEntry(3, 2), 1);
        Checks.due("range of 4", x.ofEntry(4, 2), -1);
        Checks.due("range of 5", x.ofEntry(5, 2), 0);
        Checks.due("dots of 3", x.ofEntry(3, 5), 6);
        Checks.due("dots of 2", x.ofEntry(2, 5), 0);
        Checks.noEntryOrPlace("ofEntry(-1, 0)", () -> x.ofEntry(-1, 0));
        Checks.noEntryOrPlace("ofEntry(16, 6)", () -> x.ofEntry(16, 6));
        Checks.noSuchValue("ofEntry(0, 6)", () -> x.ofEntry(0, 6));
        Checks.noSuchValue("ofEntry(0, -1)", () -> x.ofEntry(0, -1));
    }

    private static void still() {
        Cyclepaint x = new Cyclepaint();
        Checks.due("without a range", x.ofEntry(4, 3), 1);
        x.range(4, 6, 9, 2);
        Checks.due("in a range", x.ofEntry(4, 3), 0);
        x.colour(4, 5);
        x.colour(6, 5);
        Checks.due("in a range of one colour", x.ofEntry(4, 3), 1);
        x.colour(6, 6);
        Checks.due("the last of the range unsettles the first", x.ofEntry(4, 3), 0);
        x.jump(99999);
        Checks.due("99999 does not matter", x.ofEntry(4, 3), 0);
        x.range(0, 1, 1, 0);
        Checks.due("the first of all unsettles its neighbour", x.ofEntry(1, 3), 0);
        Checks.due("behind the range", x.ofEntry(7, 3), 1);
        Checks.due("ahead of the range", x.ofEntry(3, 3), 1);
    }

    private static void twins() {
        Cyclepaint x = new Cyclepaint();
        x.colour(15, 0);
        Checks.due("of one base", x.ofEntry(15, 4), 1 << 15 | 1);
        Checks.due("of 1", x.ofEntry(1, 4), 1 << 1);
        x.range(14, 15, 1, 0);
        Checks.due("now alike, but not always", x.ofEntry(15, 4), 1 << 15);
        x.range(0, 1, 1, 1);
        x.colour(1, 14);
        Checks.due("two turn alike", x.ofEntry(0, 4), 1 << 0 | 1 << 15);
        Checks.due("and the other two", x.ofEntry(14, 4), 1 << 1 | 1 << 14);
        x.turn(0, 9, 0);
        Checks.due("at other speeds no longer", x.ofEntry(0, 4), 1);
        x.turn(1, 9, 2);
        Checks.due("a swing of two is a turn of two", x.ofEntry(0, 4), 1 << 0 | 1 << 15);
    }

    private static void ofRange() {
        Cyclepaint x = new Cyclepaint();
        x.range(0, 15, 9, 2);
        long[] swing = {0, 16, 9, 2, 0, 270};
        facts(x, 0, swing);
        x.jump(9 * 20 + 8);
        Checks.due("shift on the way back", x.ofRange(0, 4), 10);
        x.stop(0);
        x.range(3, 7, 4, 1);
        x.range(10, 11, 2, 0);
        long[] back = {3, 5, 4, 1, 3, 20};
        facts(x, 0, back);
        long[] forward = {10, 2, 2, 0, 0, 4};
        facts(x, 1, forward);
        Checks.noEntryOrPlace("ofRange(2, 0)", () -> x.ofRange(2, 0));
        Checks.noEntryOrPlace("ofRange(-1, 6)", () -> x.ofRange(-1, 6));
        Checks.noSuchValue("ofRange(1, 6)", () -> x.ofRange(1, 6));
        Checks.noSuchValue("ofRange(0, -1)", () -> x.ofRange(0, -1));
    }

    private static void facts(Cyclepaint x, int range, long[] want) {
        for (int what = 0; what < want.length; what++) {
            Checks.due("ofRange(" + range + ", " + what + ")", x.ofRange(range, what), want[what]);
        }
    }

    private static void picture() {
        Cyclepaint x = new Cyclepaint();
        x.colour(5, 63);
        x.colour(6, 63);
        x.range(7, 8, 2, 0);
        x.paint(0, 0, 0, 5);
        x.paint(2, 0, 3, 6);
        x.paint(3, 1, 2, 7);
        x.paint(3, 3, 3, 8);
        x.keep();
        x.keep();
        x.call();
        x.limit(2);
        x.jump(2);
        // 5 and 6 are twins of light 18; 8 (light 6) shows at 7, and 7 (light 6) at 8.
        long[] want = {2, 1, 5, 4, 5 * 18 + 3 * 6, 4 * 18, 3, 1, 2, 2, 4, 1};
        for (int what = 0; what < want.length; what++) {
            Checks.due("picture(" + what + ")", x.picture(what), want[what]);
        }
        lightOfRows();
        Checks.noSuchValue("picture(-1)", () -> x.picture(-1));
        Checks.noSuchValue("picture(12)", () -> x.picture(12));
    }

    /** Each row has its turn as the lightest; no dot has the entry 0, and none shows 0. */
    private static void lightOfRows() {
        for (int lightest = 0; lightest < 4; lightest++) {
            Cyclepaint x = new Cyclepaint();
            x.colour(14, 63);
            x.colour(15, 63);
            for (int row = 0; row < 4; row++) {
                x.paint(row, 0, 7, row == lightest ? 15 : 1);
            }
            Checks.due("light of the lightest row, " + lightest, x.picture(5), 8 * 18);
            Checks.due("entries without 0", x.picture(2), 2);
            Checks.due("kinds without 0", x.picture(3), 2);
            Checks.due("colours without 0", x.picture(10), 2);
        }
    }

    private static void period() {
        Cyclepaint x = new Cyclepaint();
        Checks.due("without a range", x.period(), 1);
        x.range(0, 2, 4, 0);
        Checks.due("of 12", x.period(), 12);
        x.range(3, 4, 9, 1);
        Checks.due("of 12 and 18", x.period(), 36);
        x.range(5, 9, 8, 2);
        Checks.due("of 12, 18 and 64", x.period(), 576);
        x.range(10, 14, 5, 0);
        Checks.due("of 12, 18, 64 and 25", x.period(), 14400);
        x.colour(1, 0);
        x.colour(2, 0);
        Checks.due("rounds count, not colours", x.period(), 14400);
        Cyclepaint large = new Cyclepaint();
        large.range(0, 4, 8, 2);
        large.range(5, 9, 5, 0);
        large.range(10, 12, 9, 0);
        large.range(13, 14, 7, 1);
        Checks.due("of 64, 25, 27 and 14", large.period(), 302400);
    }

    private static void row() {
        Cyclepaint x = new Cyclepaint();
        x.colour(3, 63);
        x.paint(1, 0, 0, 3);
        x.paint(1, 7, 7, 9);
        Checks.due("row(1)", x.row(1), "63 0 0 0 0 0 0 9");
        Checks.due("row(0)", x.row(0), "0 0 0 0 0 0 0 0");
        x.range(8, 9, 1, 0);
        x.run(1);
        Checks.due("row(1) a step on", x.row(1), "63 0 0 0 0 0 0 8");
        Checks.noEntryOrPlace("row(-1)", () -> x.row(-1));
        Checks.noEntryOrPlace("row(4)", () -> x.row(4));
    }

    private static void mean() {
        Cyclepaint x = new Cyclepaint();
        Checks.due("of black", x.mean(), 0.0);
        x.paint(0, 0, 0, 1);
        Checks.due("of one light", x.mean(), 0.03125);
        x.colour(0, 63);
        x.colour(1, 62);
        Checks.due("of 31 of 18 and one of 17", x.mean(), 17.96875);
    }
}
