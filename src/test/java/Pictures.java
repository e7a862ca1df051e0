/**
 * The states that the edge tests start from, and all that can be asked of an object, as a text.
 * Making one takes some 40 calls and asking all of it some 320, so that both together stay below
 * the 512 calls behind which answers are free.
 */
final class Pictures {
    /** What makes an object in some state, a new one each time. */
    interface Maker {
        Cyclepaint make();
    }

    private Pictures() {
    }

    /** Nothing there: no range, nothing kept, all at the least. */
    static Cyclepaint empty() {
        return new Cyclepaint();
    }

    /** Two ranges, two kept pictures, entries and colours of all sorts, a tick between. */
    static Cyclepaint busy() {
        Cyclepaint x = new Cyclepaint();
        x.colour(0, 63);
        x.colour(5, 17);
        x.colour(9, 17);
        x.range(4, 6, 2, 1);
        x.range(9, 12, 3, 2);
        x.paint(0, 0, 4, 5);
        x.paint(1, 2, 7, 9);
        x.paint(3, 7, 7, 15);
        x.limit(3);
        x.keep();
        x.run(7);
        x.keep();
        x.run(4);
        x.call();
        return x;
    }

    /** All that has a limit is at it: 4 ranges, 5 kept pictures, the tick 99999, the limit 32. */
    static Cyclepaint full() {
        Cyclepaint x = new Cyclepaint();
        x.colour(15, 63);
        x.colour(14, 0);
        x.range(0, 2, 1, 0);
        x.range(3, 6, 2, 1);
        x.range(7, 9, 3, 2);
        x.range(10, 11, 9, 0);
        x.paint(0, 0, 7, 3);
        x.paint(1, 0, 7, 8);
        x.paint(2, 0, 6, 11);
        x.paint(3, 1, 7, 15);
        for (int number = 0; number < 5; number++) {
            x.keep();
            x.run(5 + number);
        }
        x.limit(32);
        x.call();
        x.call();
        x.jump(99999);
        return x;
    }

    static String allOf(Cyclepaint x) {
        StringBuilder all = new StringBuilder();
        for (int what = 0; what < 12; what++) {
            all.append("\npicture ").append(what).append(": ").append(x.picture(what));
        }
        all.append("\nperiod: ").append(x.period()).append("\nmean: ").append(x.mean());
        for (int entry = 0; entry < 16; entry++) {
            all.append("\nentry ").append(entry).append(':');
            for (int what = 0; what < 6; what++) {
                all.append(' ').append(x.ofEntry(entry, what));
            }
            all.append(", at 77: ").append(x.at(entry, 77));
        }
        for (int range = 0; range < x.picture(1); range++) {
            all.append("\nrange ").append(range).append(':');
            for (int what = 0; what < 6; what++) {
                all.append(' ').append(x.ofRange(range, what));
            }
        }
        for (int row = 0; row < 4; row++) {
            all.append("\nrow ").append(row).append(": ").append(x.row(row)).append(", dots:");
            for (int column = 0; column < 8; column++) {
                for (int what = 0; what < 4; what++) {
                    all.append(' ').append(x.dot(row, column, what));
                }
            }
        }
        for (int number = 0; number < x.picture(9); number++) {
            all.append("\nwhen ").append(number).append(": ").append(x.when(number));
        }
        all.append("\nfind: ").append(x.find(5, 4, 10)).append("\nmeet: ").append(x.meet(4, 4, 9, 9));
        all.append("\nlightest: ").append(x.lightest(200)).append("\nsound: ").append(x.isSound());
        return all.append("\ndigest: ").append(x.digest()).toString();
    }
}
