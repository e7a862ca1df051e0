/**
 * The document once more, as plainly as can be: colours are moved from place to place, a step at a time,
 * and every question is answered by looking at tick after tick. Every call is checked by the caller.
 */
final class PlainModel {
    final int[] base = new int[16];
    final int[][] dots = new int[4][8];
    /** Rows of from, to, speed, kind. */
    final java.util.ArrayList<int[]> ranges = new java.util.ArrayList<>();
    final java.util.ArrayList<int[]> kept = new java.util.ArrayList<>();
    int tick = 0;
    int limit = 8;
    int refused = 0;
    /** What the entries of each range show at each tick of its round. */
    private final java.util.ArrayList<int[][]> tables = new java.util.ArrayList<>();

    PlainModel() {
        for (int entry = 0; entry < 16; entry++) {
            base[entry] = entry;
        }
    }

    /** To be called when bases or ranges were changed. */
    void refresh() {
        tables.clear();
        for (int[] range : ranges) {
            tables.add(table(range));
        }
    }

    private int[][] table(int[] range) {
        int length = range[1] - range[0] + 1;
        int speed = range[2];
        int[][] table = new int[round(range)][];
        int[] now = new int[length];
        System.arraycopy(base, range[0], now, 0, length);
        boolean goesForward = range[3] != 1;
        int way = 0;
        for (int at = 0; at < table.length; at++) {
            if (at > 0 && at % speed == 0) {
                if (range[3] == 2 && way == length - 1) {
                    goesForward = !goesForward;
                    way = 0;
                }
                now = goesForward ? movedOn(now) : movedBack(now);
                way++;
            }
            table[at] = now;
        }
        return table;
    }

    private static int[] movedOn(int[] row) {
        int[] moved = new int[row.length];
        for (int i = 0; i < row.length; i++) {
            moved[i == row.length - 1 ? 0 : i + 1] = row[i];
        }
        return moved;
    }

    private static int[] movedBack(int[] row) {
        int[] moved = new int[row.length];
        for (int i = 0; i < row.length; i++) {
            moved[i == 0 ? row.length - 1 : i - 1] = row[i];
        }
        return moved;
    }

    static int round(int[] range) {
        int length = range[1] - range[0] + 1;
        return range[2] * (range[3] == 2 ? 2 * length - 2 : length);
    }

    int rangeOf(int entry) {
        for (int i = 0; i < ranges.size(); i++) {
            if (entry >= ranges.get(i)[0] && entry <= ranges.get(i)[1]) {
                return i;
            }
        }
        return -1;
    }

    int shows(int entry, int when) {
        int range = rangeOf(entry);
        if (range < 0) {
            return base[entry];
        }
        int[][] table = tables.get(range);
        return table[when % table.length][entry - ranges.get(range)[0]];
    }

    /** How far the first base of the range has come. */
    int shift(int range) {
        int[] kept = base.clone();
        int[] told = ranges.get(range);
        for (int entry = 0; entry < 16; entry++) {
            base[entry] = entry;
        }
        int[][] table = table(told);
        System.arraycopy(kept, 0, base, 0, 16);
        int place = 0;
        while (table[tick % table.length][place] != told[0]) {
            place++;
        }
        return place;
    }

    int period() {
        int period = 1;
        for (int[] range : ranges) {
            int step = period;
            while (period % round(range) != 0) {
                period += step;
            }
        }
        return period;
    }

    private int roundOf(int entry) {
        return rangeOf(entry) < 0 ? 1 : round(ranges.get(rangeOf(entry)));
    }

    boolean still(int entry) {
        for (int when = 0; when < roundOf(entry); when++) {
            if (shows(entry, when) != shows(entry, 0)) {
                return false;
            }
        }
        return true;
    }

    boolean twins(int one, int other) {
        for (int when = 0; when < roundOf(one) * roundOf(other); when++) {
            if (shows(one, when) != shows(other, when)) {
                return false;
            }
        }
        return true;
    }

    int twins(int entry) {
        int set = 0;
        for (int other = 15; other >= 0; other--) {
            set = set * 2 + (twins(entry, other) ? 1 : 0);
        }
        return set;
    }

    int merge() {
        int changed = 0;
        for (int[] row : dots) {
            for (int column = 0; column < 8; column++) {
                int smallest = 0;
                while (!twins(smallest, row[column])) {
                    smallest++;
                }
                if (smallest != row[column]) {
                    row[column] = smallest;
                    changed++;
                }
            }
        }
        return changed;
    }

    int run(int ticks) {
        int changes = 0;
        for (int i = 0; i < ticks; i++) {
            tick++;
            for (int dot = 0; dot < 32; dot++) {
                changes += shows(entry(dot), tick) != shows(entry(dot), tick - 1) ? 1 : 0;
            }
        }
        return changes;
    }

    int keep() {
        int[] picture = new int[32];
        for (int dot = 0; dot < 32; dot++) {
            picture[dot] = shows(entry(dot), tick);
        }
        kept.add(picture);
        return kept.size() - 1;
    }

    int entry(int dot) {
        return dots[dot / 8][dot % 8];
    }

    static int light(int colour) {
        int red = colour >> 4;
        int green = colour >> 2 & 3;
        int blue = colour & 3;
        return 2 * red + 3 * green + blue;
    }

    int flicker(int dot) {
        int flicker = 0;
        for (int when = tick + 1; when <= tick + 30; when++) {
            flicker += shows(entry(dot), when) != shows(entry(dot), when - 1) ? 1 : 0;
        }
        return flicker;
    }

    int dot(int dot, int what) {
        int colour = shows(entry(dot), tick);
        int[] facts = {entry(dot), colour, light(colour), what == 3 ? flicker(dot) : 0};
        return facts[what];
    }

    int ofEntry(int entry, int what) {
        int having = 0;
        for (int dot = 0; dot < 32; dot++) {
            having += entry(dot) == entry ? 1 : 0;
        }
        int[] facts = {base[entry], shows(entry, tick), rangeOf(entry),
            what == 3 && still(entry) ? 1 : 0, what == 4 ? twins(entry) : 0, having};
        return facts[what];
    }

    int ofRange(int range, int what) {
        int[] told = ranges.get(range);
        int[] facts = {told[0], told[1] - told[0] + 1, told[2], told[3], shift(range), round(told)};
        return facts[what];
    }

    int lightAt(int when) {
        int light = 0;
        for (int dot = 0; dot < 32; dot++) {
            light += light(shows(entry(dot), when));
        }
        return light;
    }

    int picture(int what) {
        java.util.TreeSet<Integer> entries = new java.util.TreeSet<>();
        java.util.TreeSet<Integer> colours = new java.util.TreeSet<>();
        java.util.TreeSet<Integer> kinds = new java.util.TreeSet<>();
        int flickering = 0;
        int[] rowLights = new int[4];
        for (int dot = 0; dot < 32; dot++) {
            entries.add(entry(dot));
            colours.add(shows(entry(dot), tick));
            if (what == 3) {
                kinds.add(twins(entry(dot)));
            }
            flickering += flicker(dot) > 10 ? 1 : 0;
            rowLights[dot / 8] += light(shows(entry(dot), tick));
        }
        java.util.Arrays.sort(rowLights);
        int[] facts = {tick, ranges.size(), entries.size(), kinds.size(), lightAt(tick), rowLights[3], flickering,
            flickering > limit ? 1 : 0, limit, kept.size(), colours.size(), refused};
        return facts[what];
    }

    String row(int row) {
        String[] shown = new String[8];
        for (int column = 0; column < 8; column++) {
            shown[column] = "" + shows(dots[row][column], tick);
        }
        return String.join(" ", shown);
    }

    int find(int entry, int colour, int from) {
        for (int when = from; when < from + 300; when++) {
            if (shows(entry, when) == colour) {
                return when;
            }
        }
        return -1;
    }

    int meet(int one, int colour, int other, int second) {
        for (int ahead = 0; ahead < roundOf(one) * roundOf(other); ahead++) {
            if (shows(one, tick + ahead) == colour && shows(other, tick + ahead) == second) {
                return ahead;
            }
        }
        return -1;
    }

    int when(int number) {
        for (int ahead = 0; ahead <= 400; ahead++) {
            boolean same = true;
            for (int dot = 0; dot < 32; dot++) {
                same = same && shows(entry(dot), tick + ahead) == kept.get(number)[dot];
            }
            if (same) {
                return ahead;
            }
        }
        return -1;
    }

    int lightest(int ticks) {
        int best = tick + ticks - 1;
        for (int when = best; when >= tick; when--) {
            best = lightAt(when) >= lightAt(best) ? when : best;
        }
        return best;
    }

    long digest() {
        long d = 7121;
        for (int what = 0; what < 12; what++) {
            d = d * 31 + picture(what);
        }
        d = d * 31 + period();
        for (int entry = 0; entry < 16; entry++) {
            for (int what = 0; what < 6; what++) {
                d = d * 31 + ofEntry(entry, what);
            }
        }
        for (int range = 0; range < ranges.size(); range++) {
            for (int what = 0; what < 6; what++) {
                d = d * 31 + ofRange(range, what);
            }
        }
        for (int dot = 0; dot < 32; dot++) {
            for (int what = 0; what < 4; what++) {
                d = d * 31 + dot(dot, what);
            }
        }
        d = d * 31 + find(1, 2, tick);
        d = d * 31 + meet(1, 3, 5, 5);
        for (int number = 0; number < kept.size(); number++) {
            d = d * 31 + when(number);
        }
        d = d * 31 + lightest(30);
        d = d * 31 + lightAt(tick) / 2;
        return d * 31 + 1;
    }
}
