/** The least and the greatest that each promise allows, all full and nothing there: what is due then. */
public final class LeastAndGreatestTest {
    public static void main(String[] args) {
        colour();
        paint();
        paintEveryDot();
        range();
        rangesBesideEachOther();
        turn();
        stop();
        merge();
        run();
        jump();
        keep();
        limit();
        call();
        dot();
        ofEntry();
        ofRange();
        picture();
        period();
        rowAndMean();
        at();
        find();
        meet();
        when();
        lightest();
        isSound();
        askingChangesNothing();
        lastCall();
        Checks.end("LeastAndGreatestTest");
    }

    /** A new object, all its dots of the entry 0, with one range. */
    private static Cyclepaint ranged(int from, int to, int speed, int kind) {
        Cyclepaint x = new Cyclepaint();
        x.range(from, to, speed, kind);
        return x;
    }

    private static void colour() {
        Cyclepaint x = new Cyclepaint();
        Checks.due("the least entry, the greatest colour", x.colour(0, 63), 0);
        Checks.due("the least entry, the least colour", x.colour(0, 0), 63);
        Checks.due("the greatest entry, the least colour", x.colour(15, 0), 15);
        Checks.due("the greatest entry, the greatest colour", x.colour(15, 63), 0);
        Checks.due("the same colour anew", x.colour(15, 63), 63);
        Checks.due("base of 0", x.ofEntry(0, 0), 0);
        Checks.due("base of 15", x.ofEntry(15, 0), 63);
        for (int entry = 1; entry < 15; entry++) {
            Checks.due("base of " + entry + " between stays", x.ofEntry(entry, 0), entry);
        }
    }

    private static void paint() {
        Cyclepaint x = new Cyclepaint();
        Checks.due("the first dot alone", x.paint(0, 0, 0, 15), 1);
        Checks.due("the last dot alone", x.paint(3, 7, 7, 15), 1);
        Checks.due("a whole row", x.paint(3, 0, 7, 15), 7);
        Checks.due("a whole row that has it", x.paint(3, 0, 7, 15), 0);
        Checks.due("the least entry", x.paint(3, 0, 7, 0), 8);
        Checks.due("the least entry where it is", x.paint(1, 0, 7, 0), 0);
        Checks.due("dots of 15", x.ofEntry(15, 5), 1);
        Checks.due("dots of 0", x.ofEntry(0, 5), 31);
    }

    /** Each dot alone, so that none is taken for its neighbour. */
    private static void paintEveryDot() {
        for (int dot = 0; dot < 32; dot++) {
            Cyclepaint x = new Cyclepaint();
            Checks.due("dot " + dot, x.paint(dot / 8, dot % 8, dot % 8, 9), 1);
            for (int other = 0; other < 32; other++) {
                Checks.due("dot " + other + " behind " + dot, x.dot(other / 8, other % 8, 0), other == dot ? 9 : 0);
            }
        }
    }

    private static void range() {
        Checks.due("the first two entries", ranged(0, 1, 1, 0).ofRange(0, 1), 2);
        Checks.due("the last two entries", ranged(14, 15, 1, 0).ofRange(0, 1), 2);
        Checks.due("all entries", ranged(0, 15, 9, 2).ofRange(0, 1), 16);
        int[] speeds = {1, 9};
        for (int speed : speeds) {
            for (int kind = 0; kind < 3; kind++) {
                Checks.due("speed", ranged(2, 4, speed, kind).ofRange(0, 2), speed);
                Checks.due("kind", ranged(2, 4, speed, kind).ofRange(0, 3), kind);
            }
        }
        Cyclepaint x = new Cyclepaint();
        for (int number = 0; number < 4; number++) {
            Checks.due("how many ranges", x.picture(1), number);
            Checks.due("its number", x.range(4 * number, 4 * number + 3, 1, 0), number);
        }
        Checks.due("all entries are in a range: the last", x.ofEntry(15, 2), 3);
        Checks.due("four are the most", x.picture(1), 4);
    }

    private static void rangesBesideEachOther() {
        Cyclepaint x = ranged(4, 6, 1, 0);
        Checks.due("next to its last", x.range(7, 8, 1, 0), 1);
        Checks.due("next to its first", x.range(2, 3, 1, 0), 2);
        Checks.due("between a range and the first entry", x.range(0, 1, 1, 0), 3);
        for (int entry = 0; entry < 10; entry++) {
            int[] ranges = {3, 3, 2, 2, 0, 0, 0, 1, 1, -1};
            Checks.due("range of " + entry, x.ofEntry(entry, 2), ranges[entry]);
        }
    }

    private static void turn() {
        Cyclepaint x = Pictures.full();
        Checks.due("the first of four at the least", x.turn(0, 1, 0), 99999 % 3);
        Checks.due("the last of four at the greatest", x.turn(3, 9, 2), 99999 / 9 % 2);
        Checks.due("speed of the last", x.ofRange(3, 2), 9);
        Checks.due("kind of the last", x.ofRange(3, 3), 2);
        Checks.due("its entries stay", x.ofRange(3, 0), 10);
        Checks.due("its length stays", x.ofRange(3, 1), 2);
        Checks.due("back, one step less than a whole round", x.turn(0, 9, 1), 1);
        x.jump(99981);
        Checks.due("back, at a whole round", x.turn(0, 9, 1), 0);
        Checks.due("the others stay", x.ofRange(1, 2), 2);
        Cyclepaint first = ranged(0, 15, 9, 2);
        Checks.due("at the tick 0, all kinds: forward", first.turn(0, 1, 0), 0);
        Checks.due("at the tick 0, all kinds: back", first.turn(0, 1, 1), 0);
        Checks.due("at the tick 0, all kinds: swing", first.turn(0, 1, 2), 0);
    }

    private static void stop() {
        int[][] left = {{3, 7, 10}, {0, 7, 10}, {0, 3, 10}, {0, 3, 7}};
        for (int gone = 0; gone < 4; gone++) {
            Cyclepaint x = Pictures.full();
            Checks.due("stop(" + gone + ")", x.stop(gone), 3);
            for (int number = 0; number < 3; number++) {
                Checks.due("behind stop(" + gone + "): first of " + number, x.ofRange(number, 0), left[gone][number]);
                Checks.due("and its range", x.ofEntry(left[gone][number], 2), number);
            }
            Checks.noEntryOrPlace("behind stop(" + gone + "): number 3", () -> x.ofRange(3, 0));
            Checks.due("a new one is the last", x.range(12, 15, 1, 0), 3);
            Checks.due("and starts where it was told", x.ofRange(3, 0), 12);
        }
        Cyclepaint x = ranged(0, 15, 1, 0);
        Checks.due("stop of the only one", x.stop(0), 0);
        Checks.noEntryOrPlace("stop once more", () -> x.stop(0));
        Checks.due("all entries are free", x.range(0, 15, 1, 0), 0);
    }

    private static void merge() {
        Cyclepaint none = new Cyclepaint();
        Checks.due("nothing to merge", none.merge(), 0);
        Cyclepaint all = new Cyclepaint();
        for (int entry = 0; entry < 16; entry++) {
            all.colour(entry, 63);
            all.paint(entry / 4, entry % 4 * 2, entry % 4 * 2 + 1, entry);
        }
        Checks.due("all are twins: all dots but those of 0", all.merge(), 30);
        Checks.due("dots of 0", all.ofEntry(0, 5), 32);
        all.paint(0, 0, 7, 15);
        all.paint(1, 0, 7, 15);
        all.paint(2, 0, 7, 15);
        all.paint(3, 0, 7, 15);
        Checks.due("all dots have another entry", all.merge(), 32);
        mergeOfTheLeastColour();
    }

    private static void mergeOfTheLeastColour() {
        Cyclepaint x = new Cyclepaint();
        x.colour(15, 0);
        x.paint(3, 0, 7, 15);
        Checks.due("the greatest entry becomes the least, both of the least colour", x.merge(), 8);
        Checks.due("it is 0", x.dot(3, 7, 0), 0);
        x.colour(0, 1);
        x.colour(5, 0);
        x.paint(2, 0, 1, 15);
        Checks.due("the least colour, though 0 has another", x.merge(), 2);
        Checks.due("15 became 5", x.dot(2, 0, 0), 5);
        Checks.due("0 and 1 are twins, and 0 is the smallest", x.dot(0, 0, 0), 0);
    }

    private static Cyclepaint eachTickAllDots() {
        return ranged(0, 1, 1, 0);
    }

    private static void run() {
        Checks.due("the least, nothing changes", new Cyclepaint().run(1), 0);
        Checks.due("the least, all change", eachTickAllDots().run(1), 32);
        Checks.due("the greatest, all change", eachTickAllDots().run(200), 6400);
        Cyclepaint x = eachTickAllDots();
        x.jump(99799);
        Checks.due("the greatest up to 99999", x.run(200), 6400);
        Checks.due("tick", x.picture(0), 99999);
        x.jump(99998);
        Checks.due("the least up to 99999", x.run(1), 32);
        Checks.due("tick", x.picture(0), 99999);
        x.jump(0);
        Checks.due("from 0 on", x.run(1), 32);
        Checks.due("tick", x.picture(0), 1);
        Cyclepaint slow = ranged(0, 15, 9, 0);
        Checks.due("one less than a step", slow.run(8), 0);
        Checks.due("a step", slow.run(1), 32);
        Checks.due("from a step to the next but one tick", slow.run(8), 0);
    }

    private static void jump() {
        Cyclepaint x = new Cyclepaint();
        Checks.due("the greatest", x.jump(99999), 0);
        Checks.due("the same", x.jump(99999), 99999);
        Checks.due("the least", x.jump(0), 99999);
        Checks.due("one more", x.jump(1), 0);
        Checks.due("one less than the greatest", x.jump(99998), 1);
        Checks.due("tick", x.picture(0), 99998);
    }

    private static void keep() {
        Cyclepaint x = new Cyclepaint();
        for (int number = 0; number < 5; number++) {
            Checks.due("how many are kept", x.picture(9), number);
            x.colour(0, 10 + number);
            Checks.due("keep()", x.keep(), number);
        }
        Checks.due("five are kept", x.picture(9), 5);
        for (int number = 0; number < 5; number++) {
            x.colour(0, 10 + number);
            for (int other = 0; other < 5; other++) {
                Checks.due("kept " + other + " as " + number + " shows", x.when(other), other == number ? 0 : -1);
            }
        }
    }

    private static void limit() {
        Cyclepaint calm = new Cyclepaint();
        Checks.due("the least, none flickers", calm.limit(0), false);
        Checks.due("the greatest, none flickers", calm.limit(32), false);
        Checks.due("limit", calm.picture(8), 32);
        Cyclepaint one = ranged(1, 2, 1, 0);
        one.paint(3, 7, 7, 1);
        Checks.due("the least, one flickers", one.limit(0), true);
        Checks.due("limit", one.picture(8), 0);
        Checks.due("barred", one.picture(7), 1);
        Checks.due("1, one flickers", one.limit(1), false);
        Checks.due("barred", one.picture(7), 0);
        Cyclepaint all = eachTickAllDots();
        Checks.due("one less than the greatest, all flicker", all.limit(31), true);
        Checks.due("the greatest, all flicker", all.limit(32), false);
    }

    private static void call() {
        Cyclepaint x = Pictures.empty();
        Checks.due("none was refused", x.picture(11), 0);
        Checks.due("the first", x.call(), 1);
        Checks.due("one was refused", x.picture(11), 1);
        Checks.due("full of all else", Pictures.full().call(), 3);
    }

    private static void dot() {
        Cyclepaint x = new Cyclepaint();
        x.colour(15, 63);
        x.paint(0, 0, 0, 15);
        x.paint(3, 7, 7, 15);
        long[] lit = {15, 63, 18, 0};
        long[] dark = {0, 0, 0, 0};
        for (int what = 0; what < 4; what++) {
            Checks.due("the first dot, " + what, x.dot(0, 0, what), lit[what]);
            Checks.due("the last dot, " + what, x.dot(3, 7, what), lit[what]);
            Checks.due("the last of the first row, " + what, x.dot(0, 7, what), dark[what]);
            Checks.due("the first of the last row, " + what, x.dot(3, 0, what), dark[what]);
        }
        Checks.due("the most flicker", eachTickAllDots().dot(3, 7, 3), 30);
    }

    private static void ofEntry() {
        Cyclepaint x = new Cyclepaint();
        long[] first = {0, 0, -1, 1, 1, 32};
        long[] last = {15, 15, -1, 1, 32768, 0};
        for (int what = 0; what < 6; what++) {
            Checks.due("of the first entry, " + what, x.ofEntry(0, what), first[what]);
            Checks.due("of the last entry, " + what, x.ofEntry(15, what), last[what]);
        }
        Cyclepaint all = Pictures.full();
        Checks.due("the first range", all.ofEntry(0, 2), 0);
        Checks.due("the last range", all.ofEntry(11, 2), 3);
        Checks.due("none of four", all.ofEntry(12, 2), -1);
        for (int entry = 0; entry < 16; entry++) {
            x.colour(entry, 0);
        }
        Checks.due("the set of all entries", x.ofEntry(15, 4), 65535);
    }

    private static void ofRange() {
        long[] least = {0, 2, 1, 0, 0, 2};
        long[] greatest = {0, 16, 9, 2, 0, 270};
        long[] swingOfTwo = {14, 2, 9, 2, 0, 18};
        long[] longBack = {0, 16, 9, 1, 0, 144};
        for (int what = 0; what < 6; what++) {
            Checks.due("of the least range, " + what, ranged(0, 1, 1, 0).ofRange(0, what), least[what]);
            Checks.due("of the greatest range, " + what, ranged(0, 15, 9, 2).ofRange(0, what), greatest[what]);
            Checks.due("of a swing of two, " + what, ranged(14, 15, 9, 2).ofRange(0, what), swingOfTwo[what]);
            Checks.due("of all going back, " + what, ranged(0, 15, 9, 1).ofRange(0, what), longBack[what]);
        }
        Cyclepaint x = ranged(0, 15, 1, 0);
        x.jump(15);
        Checks.due("the greatest shift", x.ofRange(0, 4), 15);
        Checks.due("the last of four", Pictures.full().ofRange(3, 0), 10);
    }

    private static void picture() {
        long[] empty = {0, 0, 1, 1, 0, 0, 0, 0, 8, 0, 1, 0};
        for (int what = 0; what < 12; what++) {
            Checks.due("empty: picture(" + what + ")", Pictures.empty().picture(what), empty[what]);
        }
        Cyclepaint x = new Cyclepaint();
        for (int entry = 0; entry < 16; entry++) {
            x.paint(entry / 4, entry % 4 * 2, entry % 4 * 2 + 1, entry);
        }
        Checks.due("all entries are in the picture", x.picture(2), 16);
        Checks.due("the most kinds", x.picture(3), 16);
        Checks.due("the most colours", x.picture(10), 16);
        for (int entry = 0; entry < 16; entry++) {
            x.colour(entry, 63);
        }
        Checks.due("all entries, still", x.picture(2), 16);
        Checks.due("the fewest kinds", x.picture(3), 1);
        Checks.due("the fewest colours", x.picture(10), 1);
        Checks.due("the most light", x.picture(4), 32 * 18);
        Checks.due("the most light of a row", x.picture(5), 8 * 18);
        Checks.due("no dot has a flicker above 10", x.picture(6), 0);
        Checks.due("all dots have a flicker above 10", eachTickAllDots().picture(6), 32);
        Checks.due("unlike colours, one shown by two entries", Pictures.full().picture(10), 5);
    }

    private static void period() {
        Checks.due("nothing turns", new Cyclepaint().period(), 1);
        Checks.due("the least of a range", ranged(0, 1, 1, 0).period(), 2);
        Checks.due("a swing of two", ranged(0, 1, 1, 2).period(), 2);
        Checks.due("the greatest of a range", ranged(0, 15, 9, 2).period(), 270);
        Checks.due("of four", Pictures.full().period(), 72);
        Cyclepaint x = new Cyclepaint();
        x.range(2, 6, 8, 2);
        x.range(7, 8, 7, 0);
        x.range(9, 11, 9, 1);
        x.range(12, 13, 5, 0);
        Checks.due("of 64, 14, 27 and 10", x.period(), 64 * 7 * 27 * 5);
        x.stop(0);
        x.stop(0);
        x.stop(0);
        x.stop(0);
        Checks.due("nothing turns any more", x.period(), 1);
    }

    private static void rowAndMean() {
        Cyclepaint x = new Cyclepaint();
        x.paint(0, 7, 7, 15);
        x.paint(3, 0, 0, 15);
        Checks.due("the first row", x.row(0), "0 0 0 0 0 0 0 15");
        Checks.due("the last row", x.row(3), "15 0 0 0 0 0 0 0");
        x.colour(15, 63);
        x.colour(0, 63);
        Checks.due("the longest row", x.row(3), "63 63 63 63 63 63 63 63");
        Checks.due("the most light", x.mean(), 18.0);
        x.colour(0, 0);
        Checks.due("two of 18", x.mean(), 1.125);
        x.colour(15, 0);
        Checks.due("the least light", x.mean(), 0.0);
        x.colour(15, 1);
        x.paint(0, 7, 7, 0);
        Checks.due("one of 1", x.mean(), 0.03125);
    }

    private static void at() {
        Cyclepaint x = ranged(0, 15, 1, 0);
        Checks.due("the first entry, the least tick", x.at(0, 0), 0);
        Checks.due("the last entry, the least tick", x.at(15, 0), 15);
        Checks.due("the first entry, the greatest tick", x.at(0, 99999), 1);
        Checks.due("the last entry, the greatest tick", x.at(15, 99999), 0);
        x.jump(99999);
        Checks.due("a tick that went by", x.at(0, 0), 0);
        Checks.due("the tick that is now", x.at(0, 99999), x.ofEntry(0, 1));
    }

    private static void find() {
        Cyclepaint x = ranged(0, 15, 9, 2);
        Checks.due("found at once", x.find(0, 0, 0), 0);
        Checks.due("the last tick at which it shows", x.find(0, 0, 8), 8);
        Checks.due("a whole round but its first step", x.find(0, 0, 9), 270);
        Checks.due("the last colour of a swing", x.find(0, 1, 0), 135);
        Checks.due("not now, whatever the tick is", x.find(15, 15, 10), 270);
        Checks.due("a colour that none has", x.find(15, 63, 0), -1);
        x.colour(8, 63);
        Checks.due("the greatest colour", x.find(15, 63, 0), 63);
        Checks.due("from 99999 on", x.find(0, 0, 99999), 100170);
        x.jump(99999);
        Checks.due("a tick that went by", x.find(0, 0, 0), 0);
        Cyclepaint fast = ranged(3, 9, 1, 0);
        Checks.due("a whole round but a tick", fast.find(3, 3, 1), 7);
        Checks.due("at 99999", fast.find(15, 15, 99999), 99999);
        Checks.due("outside a range never", fast.find(10, 9, 0), -1);
    }

    private static void meet() {
        Cyclepaint x = new Cyclepaint();
        x.range(0, 6, 1, 0);
        x.range(7, 15, 1, 2);
        Checks.due("now", x.meet(0, 0, 7, 7), 0);
        x.jump(1);
        Checks.due("the last tick of the rounds of 7 and 16", x.meet(0, 0, 7, 7), 111);
        Checks.due("told the other way round", x.meet(7, 7, 0, 0), 111);
        x.jump(99999);
        Checks.due("above 99999", x.meet(0, 0, 7, 7), 112 - 99999 % 112);
        Checks.due("never: a colour that none has", x.meet(0, 63, 7, 7), -1);
        Checks.due("never: the second colour", x.meet(0, 0, 7, 6), -1);
        Checks.due("the same entry and colour, now at a shift of 4", x.meet(0, 3, 0, 3), 0);
        Checks.due("the same entry and colour, the last tick of its round", x.meet(0, 4, 0, 4), 6);
        Checks.due("the same entry, two colours", x.meet(0, 3, 0, 4), -1);
        Cyclepaint still = new Cyclepaint();
        still.colour(15, 63);
        Checks.due("the first and the last entry", still.meet(0, 0, 15, 63), 0);
        Checks.due("the last and the first entry", still.meet(15, 63, 0, 0), 0);
        Checks.due("they never show other colours", still.meet(15, 0, 0, 63), -1);
        Cyclepaint slow = new Cyclepaint();
        slow.range(0, 6, 9, 0);
        slow.range(7, 15, 9, 0);
        slow.jump(9);
        Checks.due("rounds of 63 and 81 are at their start together each 567", slow.meet(0, 0, 7, 7), 558);
    }

    /** Rounds of 63 and 81 at one speed: what was kept at 0 shows in nine ticks from 567 on, and so each 567. */
    private static void when() {
        Cyclepaint x = new Cyclepaint();
        x.range(0, 6, 9, 0);
        x.range(7, 15, 9, 0);
        x.paint(3, 7, 7, 7);
        Checks.due("keep()", x.keep(), 0);
        Checks.due("now", x.when(0), 0);
        x.jump(8);
        Checks.due("still now", x.when(0), 0);
        x.jump(9);
        Checks.due("558 ticks ahead is too far", x.when(0), -1);
        x.jump(166);
        Checks.due("401 ticks ahead is too far", x.when(0), -1);
        x.jump(167);
        Checks.due("400 ticks ahead", x.when(0), 400);
        x.jump(566);
        Checks.due("the next tick", x.when(0), 1);
        x.jump(177 * 567 - 400);
        Checks.due("400 ticks ahead, above 99999", x.when(0), 400);
        x.jump(177 * 567 - 401);
        Checks.due("401 ticks ahead, above 99999", x.when(0), -1);
        x.jump(99999);
        Checks.due("from 99999 on", x.when(0), 177 * 567 - 99999);
        for (int dot = 0; dot < 32; dot++) {
            int entry = x.dot(dot / 8, dot % 8, 0);
            x.paint(dot / 8, dot % 8, dot % 8, entry == 0 ? 7 : 0);
            Checks.due("dot " + dot + " never shows it", x.when(0), -1);
            x.paint(dot / 8, dot % 8, dot % 8, entry);
        }
        Checks.due("all dots are as they were", x.when(0), 177 * 567 - 99999);
    }

    private static void lightest() {
        Cyclepaint x = Pictures.full();
        Checks.due("of one tick, at 99999", x.lightest(1), 99999);
        Cyclepaint calm = new Cyclepaint();
        Checks.due("all alike: the first of 200", calm.lightest(200), 0);
        Checks.due("the least", calm.lightest(1), 0);
        Cyclepaint y = ranged(0, 15, 9, 2);
        y.colour(8, 63);
        Checks.due("63 shows from 72 on, and again from 198 on: the first", y.lightest(200), 72);
        y.jump(80);
        Checks.due("63 shows now for the last time", y.lightest(200), 80);
        y.jump(81);
        Checks.due("63 shows again from 198 on: the last of 118", y.lightest(118), 198);
        Checks.due("it is behind the last of 117: then 7 is the most, now", y.lightest(117), 81);
        Cyclepaint z = ranged(0, 15, 9, 0);
        z.colour(1, 63);
        Checks.due("63 shows from 135 on, within 200", z.lightest(200), 135);
        Checks.due("63 shows from 135 on, the last of 136", z.lightest(136), 135);
        Checks.due("63 is behind the last of 135: then 15 is the most", z.lightest(135), 9);
        z.jump(99999);
        Checks.due("above 99999", z.lightest(200), 135 + 144 * 694);
    }

    private static void isSound() {
        Checks.due("empty", Pictures.empty().isSound(), true);
        Checks.due("busy", Pictures.busy().isSound(), true);
        Checks.due("full", Pictures.full().isSound(), true);
    }

    private static void askingChangesNothing() {
        Pictures.Maker[] states = {Pictures::empty, Pictures::busy, Pictures::full};
        for (Pictures.Maker state : states) {
            Cyclepaint x = state.make();
            x.at(0, 99999);
            x.find(0, 63, 99999);
            x.meet(0, 63, 15, 63);
            x.lightest(200);
            x.isSound();
            x.digest();
            x.row(0);
            x.mean();
            x.period();
            Checks.due("asking changes nothing", Pictures.allOf(x), Pictures.allOf(state.make()));
        }
    }

    /** The 512th call is the last that is promised. */
    private static void lastCall() {
        Cyclepaint x = new Cyclepaint();
        for (int call = 1; call <= 511; call++) {
            Checks.due("call()", x.call(), call);
        }
        Checks.due("the 512th call", x.picture(11), 511);
        Cyclepaint y = eachTickAllDots();
        for (int call = 2; call <= 500; call++) {
            Checks.due("run(200)", y.run(200), 6400);
        }
        Checks.due("tick", y.picture(0), 99800);
        Checks.due("up to 99999", y.run(199), 6368);
        Checks.notNow("and no more", () -> y.run(1));
    }
}
