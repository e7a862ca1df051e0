/** Promises 20 (at), 21 (find), 22 (meet), 23 (when) and 24 (lightest): nothing is changed by them. */
public final class ForesightTest {
    public static void main(String[] args) {
        at();
        find();
        meet();
        meetLate();
        when();
        whenAtTheEdge();
        lightest();
        Checks.end("ForesightTest");
    }

    private static void at() {
        Cyclepaint x = new Cyclepaint();
        x.range(2, 5, 3, 0);
        x.jump(50);
        long before = x.digest();
        Checks.due("at(2, 0)", x.at(2, 0), 2);
        Checks.due("at(2, 2)", x.at(2, 2), 2);
        Checks.due("at(2, 3)", x.at(2, 3), 5);
        Checks.due("at(5, 9)", x.at(5, 9), 2);
        Checks.due("at(2, 99999)", x.at(2, 99999), 5);
        Checks.due("at(15, 99999)", x.at(15, 99999), 15);
        Checks.noEntryOrPlace("at(16, 100000)", () -> x.at(16, 100000));
        Checks.noEntryOrPlace("at(-1, 0)", () -> x.at(-1, 0));
        Checks.noSuchValue("at(0, -1)", () -> x.at(0, -1));
        Checks.noSuchValue("at(0, 100000)", () -> x.at(0, 100000));
        Checks.due("nothing was changed", x.digest(), before);
    }

    private static void find() {
        Cyclepaint x = new Cyclepaint();
        x.range(2, 5, 9, 2);
        x.jump(31);
        long before = x.digest();
        Checks.due("find(2, 2, 0)", x.find(2, 2, 0), 0);
        Checks.due("find(2, 2, 1) within the step", x.find(2, 2, 1), 1);
        Checks.due("find(2, 5, 0)", x.find(2, 5, 0), 9);
        Checks.due("find(2, 3, 0)", x.find(2, 3, 0), 27);
        Checks.due("find(2, 5, 18): on the way back", x.find(2, 5, 18), 45);
        Checks.due("find(2, 3, 36): a whole round but a step", x.find(2, 3, 36), 81);
        Checks.due("find(2, 6, 0)", x.find(2, 6, 0), -1);
        Checks.due("find(7, 7, 99999)", x.find(7, 7, 99999), 99999);
        Checks.due("find(7, 8, 0)", x.find(7, 8, 0), -1);
        Checks.due("find(2, 2, 99999) above 99999", x.find(2, 2, 99999), 100008);
        Checks.noEntryOrPlace("find(-1, 0, 0)", () -> x.find(-1, 0, 0));
        Checks.noEntryOrPlace("find(16, 64, -1)", () -> x.find(16, 64, -1));
        Checks.noSuchValue("find(0, 64, 0)", () -> x.find(0, 64, 0));
        Checks.noSuchValue("find(0, -1, 0)", () -> x.find(0, -1, 0));
        Checks.noSuchValue("find(0, 0, 100000)", () -> x.find(0, 0, 100000));
        Checks.noSuchValue("find(0, 0, -1)", () -> x.find(0, 0, -1));
        Checks.due("nothing was changed", x.digest(), before);
    }

    private static void meet() {
        Cyclepaint x = new Cyclepaint();
        x.range(0, 1, 1, 0);
        x.range(4, 6, 2, 1);
        x.jump(3);
        long before = x.digest();
        Checks.due("meet(0, 1, 4, 5), now", x.meet(0, 1, 4, 5), 0);
        Checks.due("meet(0, 0, 4, 6)", x.meet(0, 0, 4, 6), 1);
        Checks.due("meet(0, 1, 4, 4)", x.meet(0, 1, 4, 4), 4);
        Checks.due("meet(0, 0, 4, 5): the last of a round", x.meet(0, 0, 4, 5), 5);
        Checks.due("the same entry twice", x.meet(5, 4, 5, 4), 1);
        Checks.due("the same entry of two colours", x.meet(5, 4, 5, 5), -1);
        Checks.due("entries of one range at odds", x.meet(0, 0, 1, 0), -1);
        Checks.due("entries of one range in step", x.meet(0, 0, 1, 1), 1);
        Checks.due("entries without a range", x.meet(8, 8, 9, 9), 0);
        Checks.due("never", x.meet(8, 8, 9, 8), -1);
        Checks.noEntryOrPlace("meet(16, 0, 0, 0)", () -> x.meet(16, 0, 0, 0));
        Checks.noEntryOrPlace("meet(0, 64, 16, 0)", () -> x.meet(0, 64, 16, 0));
        Checks.noEntryOrPlace("meet(0, 0, -1, 0)", () -> x.meet(0, 0, -1, 0));
        Checks.noSuchValue("meet(0, 64, 0, 0)", () -> x.meet(0, 64, 0, 0));
        Checks.noSuchValue("meet(0, 0, 0, 64)", () -> x.meet(0, 0, 0, 64));
        Checks.noSuchValue("meet(0, -1, 0, 0)", () -> x.meet(0, -1, 0, 0));
        Checks.noSuchValue("meet(0, 0, 0, -1)", () -> x.meet(0, 0, 0, -1));
        Checks.due("nothing was changed", x.digest(), before);
    }

    /** Rounds of 63 and 128: in step again after 8064 ticks. */
    private static void meetLate() {
        Cyclepaint x = new Cyclepaint();
        x.range(0, 6, 9, 0);
        x.range(7, 15, 8, 2);
        x.jump(1);
        Checks.due("in step at 8064", x.meet(0, 0, 7, 7), 0);
        x.jump(8);
        // 0 shows itself for 9 ticks of 63, 7 itself for 8 of 128.
        int want = 0;
        while ((8 + want) % 63 >= 9 || (8 + want) % 128 >= 8) {
            want++;
        }
        Checks.due("meet(0, 0, 7, 7) from 8 on", x.meet(0, 0, 7, 7), want);
        x.jump(99999);
        int late = 0;
        while ((99999 + late) % 63 / 9 != 3 || (99999 + late) % 128 / 8 != 8) {
            late++;
        }
        Checks.due("meet(0, 4, 7, 8) from 99999 on", x.meet(0, 4, 7, 8), late);
    }

    private static void when() {
        Cyclepaint x = new Cyclepaint();
        Checks.noEntryOrPlace("when(0) without one", () -> x.when(0));
        x.range(1, 3, 5, 0);
        x.paint(0, 0, 0, 1);
        x.paint(3, 7, 7, 3);
        x.keep();
        long before = x.digest();
        Checks.due("when(0), now", x.when(0), 0);
        Checks.noEntryOrPlace("when(1)", () -> x.when(1));
        Checks.noEntryOrPlace("when(-1)", () -> x.when(-1));
        Checks.noEntryOrPlace("when(5)", () -> x.when(5));
        Checks.due("nothing was changed", x.digest(), before);
        x.run(6);
        Checks.due("when(0), 9 ticks on", x.when(0), 9);
        x.paint(3, 7, 7, 2);
        Checks.due("the last dot differs", x.when(0), -1);
        x.paint(3, 7, 7, 3);
        x.jump(99999);
        Checks.due("above 99999", x.when(0), 6);
    }

    /** Kept at 0, and so due wherever rounds of 63 and 128 are both in their first step. */
    private static void whenAtTheEdge() {
        Cyclepaint x = new Cyclepaint();
        x.range(0, 6, 9, 0);
        x.range(7, 15, 8, 2);
        x.paint(0, 0, 0, 7);
        x.keep();
        int gapStart = 0;
        int gap = 0;
        for (int tick = 1; gap <= 401; tick++) {
            boolean due = tick % 63 < 9 && tick % 128 < 8;
            gap = due ? 0 : gap + 1;
            gapStart = due ? tick : gapStart;
        }
        int next = gapStart + 1;
        while (next % 63 >= 9 || next % 128 >= 8) {
            next++;
        }
        x.jump(next - 400);
        Checks.due("400 ticks ahead", x.when(0), 400);
        x.jump(next - 401);
        Checks.due("401 ticks ahead", x.when(0), -1);
    }

    private static Cyclepaint nextIsLightest() {
        Cyclepaint x = new Cyclepaint();
        x.range(0, 1, 1, 0);
        return x;
    }

    private static void lightest() {
        Cyclepaint x = new Cyclepaint();
        Checks.due("all alike: now", x.lightest(200), 0);
        x.colour(0, 0);
        x.colour(1, 63);
        x.colour(2, 60);
        x.range(0, 2, 3, 0);
        x.jump(4);
        long before = x.digest();
        // 0 shows 0 0 0 60 60 60 63 63 63, and so round.
        Checks.due("lightest(1)", x.lightest(1), 4);
        Checks.due("the next tick is the last of two", nextIsLightest().lightest(2), 1);
        Checks.due("lightest(2)", x.lightest(2), 4);
        Checks.due("lightest(3)", x.lightest(3), 6);
        Checks.due("lightest(200): the first of many", x.lightest(200), 6);
        Checks.noSuchValue("lightest(0)", () -> x.lightest(0));
        Checks.noSuchValue("lightest(201)", () -> x.lightest(201));
        Checks.noSuchValue("lightest(-1)", () -> x.lightest(-1));
        Checks.due("nothing was changed", x.digest(), before);
        x.jump(99999);
        Checks.due("lightest(6) above 99999", x.lightest(6), 100002);
        Checks.due("lightest(8) above 99999", x.lightest(8), 100005);
        x.paint(0, 0, 7, 1);
        x.paint(1, 0, 7, 1);
        x.paint(2, 0, 0, 1);
        // 17 dots of 1 and 15 of 0: 17 * 18 at a shift of 0, 15 * 15 at 1, 15 * 18 + 17 * 15 at 2.
        Checks.due("all dots count", x.lightest(6), 99999);
        Checks.due("all dots count, a step more", x.lightest(7), 100005);
    }
}
