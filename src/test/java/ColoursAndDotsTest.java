/** Promises 1 (a new object), 2 (colour), 3 (paint) and 7 (merge). */
public final class ColoursAndDotsTest {
    public static void main(String[] args) {
        newObject();
        colour();
        colourRefuses();
        paint();
        paintRefuses();
        merge();
        mergeOfUnlikeSpeeds();
        mergeOfStill();
        Checks.end("ColoursAndDotsTest");
    }

    private static void newObject() {
        Cyclepaint x = new Cyclepaint();
        long[] facts = {0, 0, 1, 1, 0, 0, 0, 0, 8, 0, 1, 0};
        for (int what = 0; what < facts.length; what++) {
            Checks.due("new: picture(" + what + ")", x.picture(what), facts[what]);
        }
        for (int entry = 0; entry < 16; entry++) {
            Checks.due("new: base of " + entry, x.ofEntry(entry, 0), entry);
            Checks.due("new: range of " + entry, x.ofEntry(entry, 2), -1);
            Checks.due("new: twins of " + entry, x.ofEntry(entry, 4), 1L << entry);
            Checks.due("new: dots of " + entry, x.ofEntry(entry, 5), entry == 0 ? 32 : 0);
        }
        for (int row = 0; row < 4; row++) {
            Checks.due("new: row(" + row + ")", x.row(row), "0 0 0 0 0 0 0 0");
        }
        Checks.due("new: period()", x.period(), 1);
        x.colour(3, 60);
        x.paint(0, 0, 7, 3);
        Checks.due("another new one knows nothing of the first", new Cyclepaint().row(0), "0 0 0 0 0 0 0 0");
    }

    private static void colour() {
        Cyclepaint x = new Cyclepaint();
        Checks.due("colour(15, 63)", x.colour(15, 63), 15);
        Checks.due("colour(15, 0)", x.colour(15, 0), 63);
        Checks.due("colour(0, 17)", x.colour(0, 17), 0);
        Checks.due("base of 0", x.ofEntry(0, 0), 17);
        Checks.due("base of 15", x.ofEntry(15, 0), 0);
        Checks.due("dots show the new base", x.row(3), "17 17 17 17 17 17 17 17");
        x.range(0, 1, 1, 0);
        x.run(1);
        Checks.due("colour(0, 9) in a range answers the base, not what shows", x.colour(0, 9), 17);
        Checks.due("1 shows the base of 0", x.ofEntry(1, 1), 9);
    }

    private static void colourRefuses() {
        Cyclepaint x = new Cyclepaint();
        Checks.noEntryOrPlace("colour(-1, 0)", () -> x.colour(-1, 0));
        Checks.noEntryOrPlace("colour(16, 0)", () -> x.colour(16, 0));
        Checks.noEntryOrPlace("colour(16, 64)", () -> x.colour(16, 64));
        Checks.noEntryOrPlace("colour(min, 0)", () -> x.colour(Integer.MIN_VALUE, 0));
        Checks.noSuchValue("colour(0, 64)", () -> x.colour(0, 64));
        Checks.noSuchValue("colour(0, -1)", () -> x.colour(0, -1));
        Checks.due("nothing was changed", x.digest(), new Cyclepaint().digest());
    }

    private static void paint() {
        Cyclepaint x = new Cyclepaint();
        Checks.due("paint(0, 2, 4, 5)", x.paint(0, 2, 4, 5), 3);
        Checks.due("paint(0, 4, 6, 5)", x.paint(0, 4, 6, 5), 2);
        Checks.due("paint(0, 0, 7, 5)", x.paint(0, 0, 7, 5), 3);
        Checks.due("paint(3, 7, 7, 15)", x.paint(3, 7, 7, 15), 1);
        Checks.due("paint(3, 7, 7, 15) again", x.paint(3, 7, 7, 15), 0);
        Checks.due("paint(1, 0, 0, 1)", x.paint(1, 0, 0, 1), 1);
        Checks.due("row 0", x.row(0), "5 5 5 5 5 5 5 5");
        Checks.due("row 1", x.row(1), "1 0 0 0 0 0 0 0");
        Checks.due("row 3", x.row(3), "0 0 0 0 0 0 0 15");
        Checks.due("dots of 5", x.ofEntry(5, 5), 8);
        Checks.due("dots of 0", x.ofEntry(0, 5), 22);
        Checks.due("entries in the picture", x.picture(2), 4);
    }

    private static void paintRefuses() {
        Cyclepaint x = new Cyclepaint();
        Checks.noEntryOrPlace("paint(-1, 0, 0, 1)", () -> x.paint(-1, 0, 0, 1));
        Checks.noEntryOrPlace("paint(4, 0, 0, 1)", () -> x.paint(4, 0, 0, 1));
        Checks.noEntryOrPlace("paint(0, -1, 0, 1)", () -> x.paint(0, -1, 0, 1));
        Checks.noEntryOrPlace("paint(0, 8, 8, 1)", () -> x.paint(0, 8, 8, 1));
        Checks.noEntryOrPlace("paint(0, 0, 8, 1)", () -> x.paint(0, 0, 8, 1));
        Checks.noEntryOrPlace("paint(0, 3, -1, 1)", () -> x.paint(0, 3, -1, 1));
        Checks.noEntryOrPlace("paint(0, 8, 3, 16)", () -> x.paint(0, 8, 3, 16));
        Checks.noSuchValue("paint(0, 3, 2, 1)", () -> x.paint(0, 3, 2, 1));
        Checks.noSuchValue("paint(0, 0, 7, 16)", () -> x.paint(0, 0, 7, 16));
        Checks.noSuchValue("paint(0, 0, 7, -1)", () -> x.paint(0, 0, 7, -1));
        Checks.due("nothing was changed", x.digest(), new Cyclepaint().digest());
    }

    private static void merge() {
        Cyclepaint x = new Cyclepaint();
        Checks.due("merge() of a new one", x.merge(), 0);
        for (int entry = 4; entry < 8; entry++) {
            x.colour(entry, 20 + entry % 2);
        }
        x.range(4, 7, 2, 0);
        x.paint(0, 0, 3, 6);
        x.paint(1, 0, 1, 7);
        x.paint(2, 5, 5, 4);
        String before = x.row(0) + x.row(1) + x.row(2);
        Checks.due("merge()", x.merge(), 6);
        Checks.due("6 became 4, that is the smallest though not painted there", x.dot(0, 0, 0), 4);
        Checks.due("7 became 5, that was in no dot", x.dot(1, 1, 0), 5);
        Checks.due("4 stays", x.dot(2, 5, 0), 4);
        Checks.due("what shows stays", x.row(0) + x.row(1) + x.row(2), before);
        Checks.due("dots of 6", x.ofEntry(6, 5), 0);
        Checks.due("dots of 4", x.ofEntry(4, 5), 5);
        Checks.due("merge() again", x.merge(), 0);
    }

    /** One turns at half the speed of the other, and their colours come alike. */
    private static void mergeOfUnlikeSpeeds() {
        Cyclepaint x = new Cyclepaint();
        int[] bases = {40, 41, 41, 40};
        for (int place = 0; place < 4; place++) {
            x.colour(place, bases[place]);
        }
        x.range(0, 3, 1, 0);
        x.colour(8, 40);
        x.colour(9, 41);
        x.range(8, 9, 2, 0);
        Checks.due("1 is 41 at first", x.at(1, 0), 41);
        Checks.due("twins of 1", x.ofEntry(1, 4), 1 << 1);
        Checks.due("twins of 0: 40 40 41 41", x.ofEntry(0, 4), 1 << 0 | 1 << 8);
        Checks.due("twins of 9: 41 41 40 40", x.ofEntry(9, 4), 1 << 2 | 1 << 9);
        x.paint(0, 0, 2, 8);
        x.paint(0, 3, 3, 9);
        Checks.due("kinds", x.picture(3), 2);
        Checks.due("merge()", x.merge(), 4);
        Checks.due("9 became 2", x.dot(0, 3, 0), 2);
    }

    private static void mergeOfStill() {
        Cyclepaint x = new Cyclepaint();
        x.colour(9, 7);
        x.colour(10, 7);
        x.range(9, 10, 3, 2);
        x.paint(2, 0, 7, 10);
        Checks.due("a still range and an entry without one are twins", x.ofEntry(7, 4), 1 << 7 | 1 << 9 | 1 << 10);
        Checks.due("merge()", x.merge(), 8);
        Checks.due("10 became 7", x.dot(2, 0, 0), 7);
    }
}
