/** Promises 8 (run), 9 (jump), 10 (keep), 11 (limit) and 12 (call). */
public final class TimeTest {
    public static void main(String[] args) {
        run();
        runRefuses();
        jump();
        keep();
        limit();
        call();
        Checks.end("TimeTest");
    }

    private static void run() {
        Cyclepaint x = new Cyclepaint();
        Checks.due("run(200) of a still picture", x.run(200), 0);
        Checks.due("tick", x.picture(0), 200);
        x.jump(0);
        x.range(4, 6, 2, 0);
        x.paint(1, 0, 4, 5);
        Checks.due("run(1)", x.run(1), 0);
        Checks.due("run(1), a step", x.run(1), 5);
        Checks.due("run(8), four steps", x.run(8), 20);
        Checks.due("tick", x.picture(0), 10);
        x.paint(2, 0, 1, 4);
        x.colour(6, 4);
        Checks.due("run(6), a round: a colour that is twice in it changes less", x.run(6), 2 * 5 + 2 * 2);
        // From step 8 to step 108: 33 rounds of two changes, and the step from 107 to 108,
        // at which entry 5 goes from 4 to 5 and entry 4 from 5 to 4.
        Checks.due("run(200)", x.run(200), 33 * 14 + 7);
        Checks.due("the row shows the last tick", x.row(1), "5 5 5 5 5 0 0 0");
        x.paint(3, 7, 7, 8);
        x.range(8, 9, 1, 0);
        x.stop(0);
        Checks.due("run(3) of a single dot", x.run(3), 3);
    }

    private static void runRefuses() {
        Cyclepaint x = new Cyclepaint();
        Checks.noSuchValue("run(0)", () -> x.run(0));
        Checks.noSuchValue("run(-1)", () -> x.run(-1));
        Checks.noSuchValue("run(201)", () -> x.run(201));
        Checks.noSuchValue("run(max)", () -> x.run(Integer.MAX_VALUE));
        x.range(0, 1, 1, 0);
        x.jump(99900);
        Checks.notNow("run(100) from 99900", () -> x.run(100));
        Checks.noSuchValue("run(201) from 99900", () -> x.run(201));
        Checks.due("nothing went by", x.picture(0), 99900);
        Checks.due("run(99)", x.run(99), 99 * 32);
        Checks.due("tick", x.picture(0), 99999);
        Checks.notNow("run(1) from 99999", () -> x.run(1));
    }

    private static void jump() {
        Cyclepaint x = new Cyclepaint();
        Checks.due("jump(99999)", x.jump(99999), 0);
        Checks.due("jump(5)", x.jump(5), 99999);
        Checks.due("jump(0)", x.jump(0), 5);
        Checks.due("jump(0) again", x.jump(0), 0);
        Checks.noSuchValue("jump(-1)", () -> x.jump(-1));
        Checks.noSuchValue("jump(100000)", () -> x.jump(100000));
        x.range(0, 2, 3, 1);
        x.jump(3);
        Checks.due("what shows goes along", x.row(0), "1 1 1 1 1 1 1 1");
    }

    private static void keep() {
        Cyclepaint x = new Cyclepaint();
        x.range(0, 2, 1, 0);
        for (int number = 0; number < 5; number++) {
            Checks.due("keep()", x.keep(), number);
            x.run(1);
        }
        Checks.notNow("a sixth", x::keep);
        Checks.due("kept", x.picture(9), 5);
        int[] want = {1, 2, 0, 1, 2};
        for (int number = 0; number < 5; number++) {
            Checks.due("when(" + number + ")", x.when(number), want[number]);
        }
        x.paint(0, 0, 0, 7);
        Checks.due("what was kept does not change", x.when(0), -1);
        x.colour(7, 0);
        Checks.due("colours are kept, not entries", x.when(0), 1);
        x.stop(0);
        Checks.due("and 0 without a range is 0 now", x.when(0), 0);
        Checks.due("kept as 2 was shown", x.when(1), -1);
    }

    private static void limit() {
        Cyclepaint x = new Cyclepaint();
        Checks.due("limit(0) of a calm picture", x.limit(0), false);
        Checks.due("limit", x.picture(8), 0);
        x.range(1, 2, 2, 0);
        x.range(3, 4, 3, 0);
        x.paint(0, 0, 7, 1);
        x.paint(1, 0, 0, 2);
        x.paint(2, 0, 7, 3);
        Checks.due("flicker of a speed of 2", x.dot(0, 0, 3), 15);
        Checks.due("flicker of a speed of 3 is not above 10", x.dot(2, 0, 3), 10);
        Checks.due("dots with a flicker above 10", x.picture(6), 9);
        Checks.due("limit(8)", x.limit(8), true);
        Checks.due("picture(7)", x.picture(7), 1);
        Checks.due("limit(9)", x.limit(9), false);
        Checks.due("picture(7)", x.picture(7), 0);
        Checks.due("limit(32)", x.limit(32), false);
        Checks.noSuchValue("limit(33)", () -> x.limit(33));
        Checks.noSuchValue("limit(-1)", () -> x.limit(-1));
        Checks.due("limit stays", x.picture(8), 32);
    }

    private static void call() {
        Cyclepaint x = new Cyclepaint();
        Checks.due("call()", x.call(), 1);
        Checks.due("call()", x.call(), 2);
        Checks.due("picture(11)", x.picture(11), 2);
        Checks.due("call()", x.call(), 3);
        Checks.due("another artist", new Cyclepaint().call(), 1);
    }
}
