/** Promises 25 (isSound) and 26 (digest). */
public final class SumTest {
    public static void main(String[] args) {
        isSound();
        digestOfNew();
        digestFollowsEachFact();
        digestOfMeeting();
        digestOfLightest();
        digestCutsTheMean();
        Checks.end("SumTest");
    }

    private static void isSound() {
        Cyclepaint x = new Cyclepaint();
        Checks.due("a new one is sound", x.isSound(), true);
        x.range(0, 4, 8, 2);
        x.range(5, 9, 5, 0);
        x.range(10, 12, 9, 1);
        x.range(13, 14, 7, 1);
        for (int entry = 0; entry < 16; entry++) {
            x.colour(entry, entry / 5);
            x.paint(entry % 4, entry / 4, 7, entry);
            x.run(entry + 1);
            Checks.due("sound with colours up to " + entry, x.isSound(), true);
        }
        x.jump(99999);
        Checks.due("sound at 99999", x.isSound(), true);
        x.merge();
        x.stop(1);
        Checks.due("sound when merged, with one less", x.isSound(), true);
    }

    /** By hand from the facts of a new object. */
    private static void digestOfNew() {
        long sum = 7121;
        long[] picture = {0, 0, 1, 1, 0, 0, 0, 0, 8, 0, 1, 0};
        for (long fact : picture) {
            sum = sum * 31 + fact;
        }
        sum = sum * 31 + 1;
        for (int entry = 0; entry < 16; entry++) {
            long[] facts = {entry, entry, -1, 1, 1L << entry, entry == 0 ? 32 : 0};
            for (long fact : facts) {
                sum = sum * 31 + fact;
            }
        }
        for (int fact = 0; fact < 32 * 4; fact++) {
            sum = sum * 31;
        }
        // 1 never shows 2; 1 never shows 3; now is the lightest; a mean of 0; sound.
        long[] last = {-1, -1, 0, 0, 1};
        for (long fact : last) {
            sum = sum * 31 + fact;
        }
        Checks.due("digest() of a new one", new Cyclepaint().digest(), sum);
    }

    /** A new object for each, since to put the sum together takes some 300 of the 512 calls. */
    private static void digestFollowsEachFact() {
        String[] steps = {"colours and dots", "ranges", "run", "keep", "limit and call", "jump", "merge and stop"};
        for (int last = -1; last < steps.length; last++) {
            Cyclepaint x = new Cyclepaint();
            for (int step = 0; step <= last; step++) {
                take(x, step);
            }
            compare(x, last < 0 ? "nothing" : steps[last]);
        }
        compare(Pictures.busy(), "all that makes a busy one");
        compare(Pictures.full(), "all that makes a full one");
    }

    private static void take(Cyclepaint x, int step) {
        switch (step) {
            case 0:
                x.colour(0, 44);
                x.paint(1, 2, 6, 3);
                break;
            case 1:
                x.range(1, 3, 2, 2);
                x.range(5, 8, 1, 1);
                break;
            case 2:
                x.run(7);
                break;
            case 3:
                x.keep();
                x.run(3);
                x.keep();
                break;
            case 4:
                x.colour(2, 1);
                x.colour(12, 1);
                x.paint(0, 0, 3, 12);
                x.limit(3);
                x.call();
                break;
            case 5:
                x.jump(99990);
                break;
            default:
                x.merge();
                x.stop(0);
        }
    }

    /** 16 times a mean of 3 / 32 is 1.5: what is behind the point is cut, as it is of 0.5. */
    private static void digestCutsTheMean() {
        for (int lit = 1; lit < 6; lit++) {
            Cyclepaint x = new Cyclepaint();
            x.colour(9, 1);
            x.paint(3, 0, lit - 1, 9);
            Checks.due("mean of " + lit, x.mean(), lit * 0.03125);
            compare(x, lit + " dots of a light of 1");
        }
    }

    /** meet(1, 3, 5, 5) differs from its neighbours, and from what is said of other entries and colours. */
    private static void digestOfMeeting() {
        Cyclepaint x = new Cyclepaint();
        x.range(0, 3, 3, 0);
        x.range(4, 6, 5, 0);
        x.jump(20);
        int due = x.meet(1, 3, 5, 5);
        Checks.due("meet(1, 3, 5, 5)", due, 10);
        int[] others = {x.meet(0, 3, 5, 5), x.meet(2, 3, 5, 5), x.meet(1, 2, 5, 5), x.meet(1, 4, 5, 5),
            x.meet(1, 3, 4, 5), x.meet(1, 3, 6, 5), x.meet(1, 3, 5, 4), x.meet(1, 3, 5, 6)};
        for (int other : others) {
            Checks.due("another meeting than " + other, other != due, true);
        }
        compare(x, "a meeting");
    }

    /** The entry 0 shows 63 from the tick 81 on: 29 ticks behind 52, and 30 behind 51. */
    private static Cyclepaint lightFrom81(int tick) {
        Cyclepaint x = new Cyclepaint();
        x.colour(1, 63);
        x.range(0, 7, 9, 1);
        x.jump(tick);
        return x;
    }

    private static void digestOfLightest() {
        Cyclepaint last = lightFrom81(52);
        Checks.due("lightest(29) from 52 on", last.lightest(29), 63);
        Checks.due("lightest(30) from 52 on", last.lightest(30), 81);
        compare(last, "the lightest as the last of 30");
        Cyclepaint behind = lightFrom81(51);
        Checks.due("lightest(30) from 51 on", behind.lightest(30), 63);
        Checks.due("lightest(31) from 51 on", behind.lightest(31), 81);
        compare(behind, "the lightest behind 30");
    }

    /** The sum, put together from what the other calls answer. */
    private static void compare(Cyclepaint x, String behind) {
        long sum = 7121;
        for (int what = 0; what < 12; what++) {
            sum = sum * 31 + x.picture(what);
        }
        sum = sum * 31 + x.period();
        for (int entry = 0; entry < 16; entry++) {
            for (int what = 0; what < 6; what++) {
                sum = sum * 31 + x.ofEntry(entry, what);
            }
        }
        for (int range = 0; range < x.picture(1); range++) {
            for (int what = 0; what < 6; what++) {
                sum = sum * 31 + x.ofRange(range, what);
            }
        }
        for (int row = 0; row < 4; row++) {
            for (int column = 0; column < 8; column++) {
                for (int what = 0; what < 4; what++) {
                    sum = sum * 31 + x.dot(row, column, what);
                }
            }
        }
        sum = sum * 31 + x.find(1, 2, x.picture(0));
        sum = sum * 31 + x.meet(1, 3, 5, 5);
        for (int number = 0; number < x.picture(9); number++) {
            sum = sum * 31 + x.when(number);
        }
        sum = sum * 31 + x.lightest(30);
        sum = sum * 31 + (long) (16 * x.mean());
        sum = sum * 31 + (x.isSound() ? 1 : 0);
        Checks.due("digest() behind " + behind, x.digest(), sum);
    }
}
