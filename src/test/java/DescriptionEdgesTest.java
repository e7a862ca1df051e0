/** The edges that the sentences of the Description name, section by section. */
public final class DescriptionEdgesTest {
    public static void main(String[] args) {
        noneAndSmallest();
        light();
        stepIsRoundedDown();
        forward();
        back();
        swing();
        placesOfARange();
        swingAndForwardOfTwo();
        entriesBesideARange();
        takenAway();
        stillWithoutAnEnd();
        stillByOneColour();
        ownTwin();
        twinsThatPartLate();
        twinsNotOfNow();
        kinds();
        allTicksAreByWhatIsToldNow();
        mergedFromThenOn();
        flickerFirstAndLast();
        flickerOfTenAndEleven();
        barredByEightAndNine();
        keptAsShown();
        refusedAreCounted();
        Checks.end("DescriptionEdgesTest");
    }

    private static Cyclepaint ranged(int from, int to, int speed, int kind) {
        Cyclepaint x = new Cyclepaint();
        x.range(from, to, speed, kind);
        return x;
    }

    // ---- the top

    private static void noneAndSmallest() {
        Cyclepaint x = new Cyclepaint();
        Checks.due("NONE: no range", x.ofEntry(7, 2), -1);
        Checks.due("NONE: no such tick", x.find(7, 8, 0), -1);
        Checks.due("NONE: no such meeting", x.meet(7, 8, 8, 8), -1);
        x.keep();
        x.colour(0, 1);
        Checks.due("NONE: never shown again", x.when(0), -1);
        x.colour(3, 9);
        x.colour(15, 9);
        x.paint(0, 0, 0, 15);
        Checks.due("of 3, 9 and 15 the smallest", x.merge(), 1);
        Checks.due("it is 3", x.dot(0, 0, 0), 3);
        x.range(4, 5, 1, 0);
        x.paint(0, 0, 0, 4);
        Checks.due("of the ticks 1, 3, 5 the smallest", x.lightest(6), 1);
    }

    // ---- 1. colours and dots

    /** Each part of a colour at its least and its greatest, and where one goes over into the next. */
    private static void light() {
        int[] colours = {0, 3, 4, 12, 15, 16, 19, 20, 31, 32, 47, 48, 51, 60, 63};
        int[] lights = {0, 3, 3, 9, 12, 2, 5, 5, 14, 4, 16, 6, 9, 15, 18};
        Cyclepaint x = new Cyclepaint();
        for (int i = 0; i < colours.length; i++) {
            x.colour(0, colours[i]);
            Checks.due("light of " + colours[i], x.dot(0, 0, 2), lights[i]);
            Checks.due("light of all", x.picture(4), 32L * lights[i]);
            Checks.due("mean of all", x.mean(), (double) lights[i]);
        }
    }

    // ---- 2. ranges

    private static void stepIsRoundedDown() {
        for (int speed = 1; speed <= 9; speed++) {
            Cyclepaint x = ranged(0, 15, speed, 0);
            x.jump(2 * speed - 1);
            Checks.due("a tick less than two steps of " + speed, x.ofRange(0, 4), 1);
            x.jump(2 * speed);
            Checks.due("two steps of " + speed, x.ofRange(0, 4), 2);
            x.jump(3 * speed - 1);
            Checks.due("a tick less than three steps of " + speed, x.ofRange(0, 4), 2);
        }
        Cyclepaint x = ranged(0, 15, 9, 0);
        x.jump(99998);
        Checks.due("11110 steps", x.ofRange(0, 4), 11110 % 16);
        x.jump(99999);
        Checks.due("11111 steps", x.ofRange(0, 4), 11111 % 16);
    }

    private static void shifts(String name, Cyclepaint x, int from, int... want) {
        int speed = x.ofRange(0, 2);
        for (int ahead = 0; ahead < want.length; ahead++) {
            x.jump((from + ahead) * speed);
            Checks.due(name + ", step " + (from + ahead), x.ofRange(0, 4), want[ahead]);
            x.jump((from + ahead) * speed + speed - 1);
            Checks.due(name + ", the last tick of step " + (from + ahead), x.ofRange(0, 4), want[ahead]);
        }
    }

    private static void forward() {
        shifts("forward, 2", ranged(3, 4, 1, 0), 0, 0, 1, 0, 1, 0);
        shifts("forward, 3", ranged(3, 5, 4, 0), 0, 0, 1, 2, 0, 1, 2, 0);
        shifts("forward, 16", ranged(0, 15, 9, 0), 14, 14, 15, 0, 1);
    }

    private static void back() {
        shifts("back, 2", ranged(3, 4, 1, 1), 0, 0, 1, 0, 1, 0);
        shifts("back, 3", ranged(3, 5, 4, 1), 0, 0, 2, 1, 0, 2, 1, 0);
        shifts("back, 16", ranged(0, 15, 9, 1), 14, 2, 1, 0, 15, 14);
    }

    private static void swing() {
        shifts("swing, 2", ranged(3, 4, 1, 2), 0, 0, 1, 0, 1, 0);
        shifts("swing, 3", ranged(3, 5, 4, 2), 0, 0, 1, 2, 1, 0, 1, 2, 1, 0);
        shifts("swing, 4", ranged(12, 15, 9, 2), 0, 0, 1, 2, 3, 2, 1, 0, 1);
        shifts("swing, 16, where it turns", ranged(0, 15, 9, 2), 13, 13, 14, 15, 14, 13);
        shifts("swing, 16, where it comes round", ranged(0, 15, 9, 2), 28, 2, 1, 0, 1, 2);
    }

    /** The first place shows the last base behind a step forward, and the last the first behind a step back. */
    private static void placesOfARange() {
        Cyclepaint x = ranged(5, 8, 1, 0);
        int[][] forward = {{5, 6, 7, 8}, {8, 5, 6, 7}, {7, 8, 5, 6}, {6, 7, 8, 5}, {5, 6, 7, 8}};
        int[][] back = {{5, 6, 7, 8}, {6, 7, 8, 5}, {7, 8, 5, 6}, {8, 5, 6, 7}, {5, 6, 7, 8}};
        for (int tick = 0; tick < 5; tick++) {
            for (int place = 0; place < 4; place++) {
                x.turn(0, 1, 0);
                Checks.due("forward, tick " + tick + ", place " + place, x.at(5 + place, tick), forward[tick][place]);
                x.turn(0, 1, 1);
                Checks.due("back, tick " + tick + ", place " + place, x.at(5 + place, tick), back[tick][place]);
            }
        }
        Cyclepaint all = ranged(0, 15, 1, 0);
        Checks.due("the first of all shows the last", all.at(0, 1), 15);
        Checks.due("the last of all shows the one ahead of it", all.at(15, 1), 14);
        all.turn(0, 1, 1);
        Checks.due("back: the first of all shows the next", all.at(0, 1), 1);
        Checks.due("back: the last of all shows the first", all.at(15, 1), 0);
    }

    private static void swingAndForwardOfTwo() {
        Cyclepaint x = ranged(0, 1, 3, 2);
        Checks.due("a swing of two comes round as going forward does", x.ofRange(0, 5), 6);
        x.turn(0, 3, 0);
        Checks.due("going forward", x.ofRange(0, 5), 6);
        x.turn(0, 3, 1);
        Checks.due("going back", x.ofRange(0, 5), 6);
        Checks.due("a swing of three", ranged(0, 2, 3, 2).ofRange(0, 5), 12);
    }

    private static void entriesBesideARange() {
        Cyclepaint x = ranged(5, 8, 1, 2);
        for (int tick = 0; tick < 7; tick++) {
            Checks.due("the entry ahead", x.at(4, tick), 4);
            Checks.due("the entry behind", x.at(9, tick), 9);
        }
        Checks.due("range of the entry ahead", x.ofEntry(4, 2), -1);
        Checks.due("range of the first", x.ofEntry(5, 2), 0);
        Checks.due("range of the last", x.ofEntry(8, 2), 0);
        Checks.due("range of the entry behind", x.ofEntry(9, 2), -1);
    }

    private static void takenAway() {
        Cyclepaint x = new Cyclepaint();
        x.range(8, 9, 1, 0);
        x.range(0, 1, 2, 1);
        x.range(4, 5, 3, 2);
        x.jump(1);
        x.stop(0);
        Checks.due("8 shows its base", x.ofEntry(8, 1), 8);
        Checks.due("what was 1 is 0", x.ofEntry(0, 2), 0);
        Checks.due("what was 2 is 1", x.ofEntry(4, 2), 1);
        Checks.due("its speed is its own", x.ofRange(1, 2), 3);
        Checks.due("its kind is its own", x.ofRange(1, 3), 2);
        x.stop(1);
        Checks.due("the one ahead stays 0", x.ofEntry(0, 2), 0);
        Checks.due("none has 4", x.ofEntry(4, 2), -1);
    }

    // ---- 3. what is always so

    private static void stillWithoutAnEnd() {
        Cyclepaint x = ranged(0, 15, 9, 0);
        for (int entry = 0; entry < 15; entry++) {
            x.colour(entry, 15);
        }
        x.colour(0, 14);
        x.jump(99999);
        for (int entry = 0; entry < 16; entry++) {
            Checks.due("entry " + entry + " is not still, though 99999 is the last tick", x.ofEntry(entry, 3), 0);
        }
        x.colour(0, 15);
        for (int entry = 0; entry < 16; entry++) {
            Checks.due("entry " + entry + " is still in a range of one colour", x.ofEntry(entry, 3), 1);
            Checks.due("entry " + entry + " is a twin of all", x.ofEntry(entry, 4), 65535);
        }
    }

    /** Whichever place has the other colour, it comes to all of the range and to none beside it. */
    private static void stillByOneColour() {
        for (int kind = 0; kind < 3; kind++) {
            for (int other = 2; other <= 13; other++) {
                Cyclepaint x = ranged(3, 12, 9, kind);
                for (int entry = 0; entry < 16; entry++) {
                    x.colour(entry, entry == other ? 1 : 0);
                }
                int still = other == 2 || other == 13 ? 1 : 0;
                for (int entry = 3; entry <= 12; entry++) {
                    Checks.due("kind " + kind + ", 1 at " + other + ": still " + entry, x.ofEntry(entry, 3), still);
                }
                Checks.due("beside it", x.ofEntry(2, 3), 1);
                Checks.due("behind it", x.ofEntry(13, 3), 1);
            }
        }
    }

    private static void ownTwin() {
        Pictures.Maker[] states = {Pictures::empty, Pictures::busy, Pictures::full};
        for (Pictures.Maker state : states) {
            Cyclepaint x = state.make();
            for (int entry = 0; entry < 16; entry++) {
                Checks.due("entry " + entry + " is its own twin", x.ofEntry(entry, 4) >> entry & 1, 1);
            }
        }
    }

    /** Rounds of 63 and 81: their first 126 ticks are alike, which is as long as unlike ones can be. */
    private static Cyclepaint alikeFor126() {
        Cyclepaint x = new Cyclepaint();
        int[] bases = {50, 60, 50, 60, 50, 60, 50, 50, 60, 50, 60, 50, 60, 50, 50, 60};
        for (int entry = 0; entry < 16; entry++) {
            x.colour(entry, bases[entry]);
        }
        x.range(0, 6, 9, 1);
        x.range(7, 15, 9, 1);
        return x;
    }

    private static void twinsThatPartLate() {
        Cyclepaint x = alikeFor126();
        for (int tick = 0; tick < 126; tick++) {
            Checks.due("alike at " + tick, x.at(0, tick), x.at(7, tick));
        }
        Checks.due("0 at 126", x.at(0, 126), 50);
        Checks.due("7 at 126", x.at(7, 126), 60);
        Checks.due("twins of 0", x.ofEntry(0, 4), 1);
        Checks.due("twins of 7", x.ofEntry(7, 4), 1 << 7);
        x.paint(0, 0, 7, 7);
        Checks.due("kinds", x.picture(3), 2);
        Checks.due("merge()", x.merge(), 0);
        Checks.due("meet(0, 50, 7, 60)", x.meet(0, 50, 7, 60), 126);
    }

    private static void twinsNotOfNow() {
        Cyclepaint x = ranged(0, 1, 1, 0);
        x.colour(5, 1);
        Checks.due("they show the same at other ticks, not now", x.ofEntry(5, 4), 1 << 5);
        x.jump(1);
        Checks.due("they show the same now", x.ofEntry(0, 1), x.ofEntry(5, 1));
        Checks.due("and are no twins", x.ofEntry(5, 4), 1 << 5);
        x.colour(0, 1);
        Checks.due("of one colour they are", x.ofEntry(5, 4), 1 << 5 | 1 << 1 | 1);
    }

    private static void kinds() {
        Cyclepaint x = new Cyclepaint();
        Checks.due("one entry", x.picture(3), 1);
        x.colour(8, 0);
        x.colour(9, 0);
        Checks.due("twins that are in no dot do not count", x.picture(3), 1);
        x.paint(0, 0, 0, 8);
        Checks.due("twins count once", x.picture(3), 1);
        Checks.due("both are in the picture", x.picture(2), 2);
        x.paint(0, 1, 1, 1);
        Checks.due("another one", x.picture(3), 2);
        for (int row = 0; row < 4; row++) {
            x.paint(row, 0, 7, 9);
        }
        Checks.due("the smallest twin is in no dot", x.picture(3), 1);
        x.paint(0, 0, 0, 8);
        Checks.due("nor is it here", x.picture(3), 1);
        x.colour(9, 1);
        Checks.due("no twins any more", x.picture(3), 2);
    }

    private static void allTicksAreByWhatIsToldNow() {
        Cyclepaint x = ranged(0, 1, 1, 0);
        x.run(5);
        Checks.due("0 at 1, that went by", x.at(0, 1), 1);
        x.colour(1, 40);
        Checks.due("0 at 1, by the colour told now", x.at(0, 1), 40);
        x.turn(0, 9, 0);
        Checks.due("0 at 1, by the speed told now", x.at(0, 1), 0);
        Checks.due("0 now", x.ofEntry(0, 1), 0);
        Checks.due("find from 0 on", x.find(0, 40, 0), 9);
        x.stop(0);
        Checks.due("0 at 9, without a range", x.at(0, 9), 0);
        x.range(0, 2, 1, 1);
        Checks.due("a range that begins now has made steps from the tick 0 on", x.ofRange(0, 4), 1);
        Checks.due("0 at 1, ahead of when it began", x.at(0, 1), 40);
    }

    private static void mergedFromThenOn() {
        Cyclepaint x = new Cyclepaint();
        x.colour(12, 2);
        x.paint(0, 0, 3, 12);
        Checks.due("12 is 2", x.merge(), 4);
        x.colour(12, 30);
        Checks.due("the dots stay with 2", x.row(0), "2 2 2 2 0 0 0 0");
        x.colour(2, 31);
        Checks.due("and show what 2 is told", x.row(0), "31 31 31 31 0 0 0 0");
        Checks.due("12 has no dot", x.ofEntry(12, 5), 0);
        Checks.due("2 has four", x.ofEntry(2, 5), 4);
        Checks.due("the entries themselves are two still", x.ofEntry(12, 4), 1 << 12);
    }

    // ---- 4. flicker, and kept pictures

    /** A step each 9 ticks: how many of them are in the 30 ticks behind. */
    private static void flickerFirstAndLast() {
        Cyclepaint x = ranged(0, 1, 9, 0);
        int[][] due = {{0, 3}, {5, 3}, {6, 4}, {8, 4}, {9, 3}, {14, 3}, {15, 4}, {17, 4}, {18, 3}};
        for (int[] one : due) {
            x.jump(one[0]);
            Checks.due("flicker from " + one[0] + " on", x.dot(0, 0, 3), one[1]);
        }
        x.jump(99999);
        Checks.due("above 99999: 100008, 100017 and 100026", x.dot(0, 0, 3), 3);
        x.jump(99996);
        Checks.due("above 99999: 99999 to 100026", x.dot(0, 0, 3), 4);
        Checks.due("none", new Cyclepaint().dot(3, 7, 3), 0);
        Checks.due("all", ranged(0, 1, 1, 1).dot(3, 7, 3), 30);
    }

    /** Two places next to each other have one colour, so that one step of each round changes nothing. */
    private static void flickerOfTenAndEleven() {
        Cyclepaint ten = ranged(1, 3, 2, 0);
        ten.colour(2, 1);
        ten.paint(0, 0, 7, 1);
        Checks.due("two changes in three steps, 15 steps", ten.dot(0, 0, 3), 10);
        Checks.due("10 is not above 10", ten.picture(6), 0);
        Checks.due("limit(0)", ten.limit(0), false);
        Cyclepaint eleven = ranged(1, 4, 2, 0);
        eleven.colour(2, 1);
        eleven.paint(0, 0, 7, 1);
        eleven.jump(6);
        Checks.due("steps 4 to 18, without 4, 8, 12 and 16", eleven.dot(0, 0, 3), 11);
        Checks.due("11 is above 10", eleven.picture(6), 8);
        Checks.due("limit(7)", eleven.limit(7), true);
        Checks.due("limit(8)", eleven.limit(8), false);
    }

    private static void barredByEightAndNine() {
        Cyclepaint x = ranged(1, 2, 1, 0);
        x.paint(2, 0, 7, 1);
        Checks.due("LIMIT at first", x.picture(8), 8);
        Checks.due("eight flicker", x.picture(6), 8);
        Checks.due("eight are not more than eight", x.picture(7), 0);
        x.paint(3, 7, 7, 2);
        Checks.due("nine flicker", x.picture(6), 9);
        Checks.due("nine are more than eight", x.picture(7), 1);
        x.paint(2, 0, 0, 0);
        Checks.due("eight flicker once more", x.picture(7), 0);
    }

    private static void keptAsShown() {
        Cyclepaint x = ranged(0, 1, 5, 0);
        x.paint(1, 3, 3, 9);
        x.keep();
        x.jump(5);
        x.keep();
        Checks.due("kept 0 from 5 on", x.when(0), 5);
        Checks.due("kept 1 from 5 on", x.when(1), 0);
        x.paint(1, 3, 3, 8);
        Checks.due("another entry there", x.when(1), -1);
        x.colour(8, 9);
        Checks.due("another entry there, of its colour", x.when(1), 0);
        x.colour(1, 33);
        Checks.due("what was kept is as it was shown", x.when(1), -1);
        x.colour(1, 1);
        x.stop(0);
        Checks.due("without the range the first is shown now", x.when(0), 0);
        Checks.due("and the second never", x.when(1), -1);
        Checks.due("a third", x.keep(), 2);
        Checks.due("is as the first", x.when(2), 0);
    }

    private static void refusedAreCounted() {
        Cyclepaint x = new Cyclepaint();
        Checks.noSuchValue("run(0)", () -> x.run(0));
        Checks.due("who does not call is not counted", x.picture(11), 0);
        Checks.due("the first", x.call(), 1);
        x.jump(99999);
        x.jump(0);
        x.merge();
        Checks.due("the second", x.call(), 2);
        Checks.due("counted ever", x.picture(11), 2);
    }
}
