import java.util.ArrayList;
import java.util.function.IntSupplier;

/** Chance runs of calls, right and wrong ones, on Cyclepaint and on the plain model; the seed is fixed. */
public final class ModelTest {
    private static final int RUNS = 400;
    private static final int CALLS = 120;

    private static long seed = 20261119L;
    private static Cyclepaint x;
    private static PlainModel model;
    private static int run;

    public static void main(String[] args) {
        for (run = 1; run <= RUNS; run++) {
            x = new Cyclepaint();
            model = new PlainModel();
            int colours = new int[] {2, 3, 6, 64}[chance(4)];
            for (int i = 0; i < CALLS; i++) {
                oneCall(chance(30), colours);
            }
            Checks.due(name("digest()"), x.digest(), model.digest());
            Checks.due(name("isSound()"), x.isSound(), true);
        }
        Checks.end("ModelTest");
    }

    private static int chance(int bound) {
        seed = seed * 6364136223846793005L + 1442695040888963407L;
        return (int) ((seed >>> 33) % bound);
    }

    /** A number of those allowed, and at times one beside them. */
    private static int near(int low, int high) {
        if (chance(25) > 0) {
            return low + chance(high - low + 1);
        }
        int[] wrong = {low - 1, high + 1, Integer.MIN_VALUE, Integer.MAX_VALUE};
        return wrong[chance(4)];
    }

    private static String name(String call) {
        return "run " + run + ": " + call;
    }

    private static boolean isIn(int number, int low, int high) {
        return number >= low && number <= high;
    }

    private static void answer(String call, boolean hasPlace, boolean hasValue, boolean isTime,
            IntSupplier asked, IntSupplier due) {
        String name = name(call);
        if (!hasPlace) {
            Checks.noEntryOrPlace(name, asked::getAsInt);
        } else if (!hasValue) {
            Checks.noSuchValue(name, asked::getAsInt);
        } else if (!isTime) {
            Checks.notNow(name, asked::getAsInt);
        } else {
            int want = due.getAsInt();
            int got;
            try {
                got = asked.getAsInt();
            } catch (RuntimeException e) {
                Checks.due(name + " throws", e.getClass().getSimpleName(), "nothing");
                return;
            }
            Checks.due(name, got, want);
        }
    }

    private static void oneCall(int call, int colours) {
        if (call < 12) {
            change(call, colours);
        } else if (call < 20) {
            ask(call);
        } else {
            foresee(call, colours);
        }
    }

    private static void change(int call, int colours) {
        int ranges = model.ranges.size();
        switch (call) {
            case 0: case 1: case 2: {
                int entry = near(0, 15);
                int colour = chance(5) == 0 ? near(0, 63) : chance(colours);
                answer("colour(" + entry + ", " + colour + ")", isIn(entry, 0, 15), isIn(colour, 0, 63), true,
                        () -> x.colour(entry, colour), () -> toldColour(entry, colour));
                break;
            }
            case 3: case 4: {
                int row = near(0, 3);
                int from = near(0, 7);
                int to = chance(4) == 0 ? near(0, 7) : Math.max(from, near(0, 7));
                int entry = near(0, 15);
                answer("paint(" + row + ", " + from + ", " + to + ", " + entry + ")",
                        isIn(row, 0, 3) && isIn(from, 0, 7) && isIn(to, 0, 7), to >= from && isIn(entry, 0, 15), true,
                        () -> x.paint(row, from, to, entry), () -> painted(row, from, to, entry));
                break;
            }
            case 5: case 6: {
                int from = near(0, 15);
                int to = chance(3) > 0 ? from + chance(6) : near(0, 15);
                int speed = near(1, 9);
                int kind = near(0, 2);
                boolean isFree = ranges < 4;
                for (int entry = Math.max(0, from); entry <= Math.min(15, to); entry++) {
                    isFree = isFree && model.rangeOf(entry) < 0;
                }
                answer("range(" + from + ", " + to + ", " + speed + ", " + kind + ")",
                        isIn(from, 0, 15) && isIn(to, 0, 15), to > from && isIn(speed, 1, 9) && isIn(kind, 0, 2), isFree,
                        () -> x.range(from, to, speed, kind), () -> newRange(from, to, speed, kind));
                break;
            }
            case 7: {
                int range = ranges == 0 ? chance(4) : near(0, ranges - 1);
                int speed = near(1, 9);
                int kind = near(0, 2);
                answer("turn(" + range + ", " + speed + ", " + kind + ")", isIn(range, 0, ranges - 1),
                        isIn(speed, 1, 9) && isIn(kind, 0, 2), true,
                        () -> x.turn(range, speed, kind), () -> turned(range, speed, kind));
                break;
            }
            case 8: {
                int range = chance(4) == 0 ? near(0, 3) : 4;
                answer("stop(" + range + ")", isIn(range, 0, ranges - 1), true, true,
                        () -> x.stop(range), () -> stopped(range));
                break;
            }
            case 9: {
                int ticks = chance(2) == 0 ? near(1, 200) : near(1, 12);
                answer("run(" + ticks + ")", true, isIn(ticks, 1, 200),
                        model.tick + Math.min(ticks, 201) <= 99999,
                        () -> x.run(ticks), () -> model.run(ticks));
                break;
            }
            case 10: {
                int tick = chance(2) == 0 ? near(0, 99999) : near(99700, 99999);
                answer("jump(" + tick + ")", true, isIn(tick, 0, 99999), true,
                        () -> x.jump(tick), () -> jumped(tick));
                break;
            }
            default:
                changeMore();
        }
    }

    private static void changeMore() {
        switch (chance(4)) {
            case 0:
                answer("merge()", true, true, true, () -> x.merge(), () -> model.merge());
                break;
            case 1:
                answer("keep()", true, true, model.kept.size() < 5, () -> x.keep(), () -> model.keep());
                break;
            case 2:
                answer("call()", true, true, true, () -> x.call(), () -> ++model.refused);
                break;
            default: {
                int limit = near(0, 32);
                answer("limit(" + limit + ")", true, isIn(limit, 0, 32), true,
                        () -> x.limit(limit) ? 1 : 0, () -> limited(limit));
            }
        }
    }

    private static void ask(int call) {
        switch (call) {
            case 12: case 13: {
                int row = near(0, 3);
                int column = near(0, 7);
                int what = near(0, 3);
                answer("dot(" + row + ", " + column + ", " + what + ")", isIn(row, 0, 3) && isIn(column, 0, 7),
                        isIn(what, 0, 3), true, () -> x.dot(row, column, what), () -> model.dot(row * 8 + column, what));
                break;
            }
            case 14: case 15: {
                int entry = near(0, 15);
                int what = near(0, 5);
                answer("ofEntry(" + entry + ", " + what + ")", isIn(entry, 0, 15), isIn(what, 0, 5), true,
                        () -> x.ofEntry(entry, what), () -> model.ofEntry(entry, what));
                break;
            }
            case 16: {
                int range = near(0, 3);
                int what = near(0, 5);
                answer("ofRange(" + range + ", " + what + ")", isIn(range, 0, model.ranges.size() - 1),
                        isIn(what, 0, 5), true, () -> x.ofRange(range, what), () -> model.ofRange(range, what));
                break;
            }
            case 17: case 18: {
                int what = near(0, 11);
                answer("picture(" + what + ")", true, isIn(what, 0, 11), true,
                        () -> x.picture(what), () -> model.picture(what));
                break;
            }
            default: {
                answer("period()", true, true, true, () -> x.period(), () -> model.period());
                int row = chance(4);
                Checks.due(name("row(" + row + ")"), x.row(row), model.row(row));
                Checks.due(name("mean()"), x.mean(), model.lightAt(model.tick) * 0.03125);
            }
        }
    }

    private static void foresee(int call, int colours) {
        int entry = near(0, 15);
        int colour = chance(4) == 0 ? near(0, 63) : chance(colours);
        switch (call) {
            case 20: {
                int tick = near(0, 99999);
                answer("at(" + entry + ", " + tick + ")", isIn(entry, 0, 15), isIn(tick, 0, 99999), true,
                        () -> x.at(entry, tick), () -> model.shows(entry, tick));
                break;
            }
            case 21: case 22: {
                int from = near(0, 99999);
                answer("find(" + entry + ", " + colour + ", " + from + ")", isIn(entry, 0, 15),
                        isIn(colour, 0, 63) && isIn(from, 0, 99999), true,
                        () -> x.find(entry, colour, from), () -> model.find(entry, colour, from));
                break;
            }
            case 23: case 24: {
                int other = near(0, 15);
                int second = chance(4) == 0 ? near(0, 63) : chance(colours);
                answer("meet(" + entry + ", " + colour + ", " + other + ", " + second + ")",
                        isIn(entry, 0, 15) && isIn(other, 0, 15), isIn(colour, 0, 63) && isIn(second, 0, 63), true,
                        () -> x.meet(entry, colour, other, second), () -> model.meet(entry, colour, other, second));
                break;
            }
            case 25: case 26: {
                int number = near(0, 4);
                answer("when(" + number + ")", isIn(number, 0, model.kept.size() - 1), true, true,
                        () -> x.when(number), () -> model.when(number));
                break;
            }
            case 27: {
                int ticks = near(1, 200);
                answer("lightest(" + ticks + ")", true, isIn(ticks, 1, 200), true,
                        () -> x.lightest(ticks), () -> model.lightest(ticks));
                break;
            }
            default:
                Checks.due(name("isSound()"), x.isSound(), true);
        }
    }

    private static int toldColour(int entry, int colour) {
        int before = model.base[entry];
        model.base[entry] = colour;
        model.refresh();
        return before;
    }

    private static int painted(int row, int from, int to, int entry) {
        int changed = 0;
        for (int column = from; column <= to; column++) {
            changed += model.dots[row][column] != entry ? 1 : 0;
            model.dots[row][column] = entry;
        }
        return changed;
    }

    private static int newRange(int from, int to, int speed, int kind) {
        model.ranges.add(new int[] {from, to, speed, kind});
        model.refresh();
        return model.ranges.size() - 1;
    }

    private static int turned(int range, int speed, int kind) {
        ArrayList<int[]> ranges = model.ranges;
        ranges.get(range)[2] = speed;
        ranges.get(range)[3] = kind;
        model.refresh();
        return model.shift(range);
    }

    private static int stopped(int range) {
        model.ranges.remove(range);
        model.refresh();
        return model.ranges.size();
    }

    private static int jumped(int tick) {
        int before = model.tick;
        model.tick = tick;
        return before;
    }

    private static int limited(int limit) {
        model.limit = limit;
        return model.picture(7);
    }
}
