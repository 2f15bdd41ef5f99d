import java.util.ArrayList;
import java.util.List;
import java.util.Random;

/**
 * Answers that hang together by the document's words: what one call tells is held beside what others tell of the same map,
 * so that no answer is worked out twice in the same way. The maps come by fixed seeds; each check has an object of its own.
 */
public final class TogetherTest {
    private static final int NONE = DotSpreader.NONE;
    private static final int LEVELS = 5;

    private final Random random;
    private final String text;
    private final int width;
    private final int height;
    private final int zones;
    private final int groups;
    private final int unit;
    private final int factor;
    private final String which;

    private TogetherTest(long seed) {
        random = new Random(seed);
        width = 2 + random.nextInt(5);
        height = 2 + random.nextInt(4);
        zones = 2 + random.nextInt(3);
        groups = 1 + random.nextInt(3);
        unit = 1 + random.nextInt(90);
        factor = 2 + random.nextInt(4);
        text = mapText();
        which = ", seed " + seed;
    }

    public static void main(String[] args) {
        int seeds = args.length > 0 ? Integer.parseInt(args[0]) : 150;
        for (int seed = 0; seed < seeds; seed++) {
            TogetherTest test = new TogetherTest(seed);
            test.numbers();
            test.orders();
            test.places();
            test.sums();
            test.levels();
            test.counts();
            test.written();
            test.triedAndMoved();
            test.joinedByMoves();
            test.fitsAndScale();
            test.nearest();
            test.measures();
            test.thinned();
            test.tours();
            test.hulls();
            test.middles();
        }
        Check.done("TogetherTest");
    }

    private String mapText() {
        StringBuilder map = new StringBuilder("size " + width + " " + height + ";groups " + groups + ";");
        for (int zone = 0; zone < zones; zone++) {
            map.append("zone ").append((char) ('a' + zone)).append(" people ").append(random.nextInt(400));
            for (int group = 1; group < groups; group++) {
                map.append(',').append(random.nextInt(400));
            }
            map.append(';');
        }
        // Two runs in a row at most, so that the text is never longer than a TAPE.
        for (int row = 0; row < height; row++) {
            int cut = random.nextInt(width);
            map.append("row ").append((char) ('a' + random.nextInt(zones))).append(' ').append(row).append(":0-").append(cut).append(';');
            if (cut < width - 1 && random.nextInt(3) > 0) {
                map.append("row ").append((char) ('a' + random.nextInt(zones))).append(' ').append(row).append(':')
                        .append(cut + 1).append('-').append(width - 1).append(';');
            }
        }
        map.append("sea ").append(random.nextInt(height)).append(':').append(random.nextInt(2)).append("-1;");
        return map.toString();
    }

    private DotSpreader made() {
        DotSpreader x = Check.map(text);
        x.unit(unit);
        x.factor(factor);
        return x;
    }

    private int cells() {
        return width * height;
    }

    private int far(int one, int two) {
        int across = one % width - two % width;
        int down = one / width - two / width;
        return across * across + down * down;
    }

    private void is(String what, long got, long due) {
        Check.is(what + which, got, due);
    }

    private boolean isLand(DotSpreader x, int cell) {
        return x.cell(cell, 0) != NONE && x.cell(cell, 1) == 0;
    }

    private List<Integer> withDots(DotSpreader x, int level) {
        List<Integer> found = new ArrayList<>();
        for (int cell = 0; cell < cells(); cell++) {
            if (x.crowd(cell, NONE, level) > 0) {
                found.add(cell);
            }
        }
        return found;
    }

    // ---- numbers ----

    private void numbers() {
        for (int group = 0; group < groups; group++) {
            DotSpreader x = made();
            int people = 0;
            for (int zone = 0; zone < zones; zone++) {
                people += x.lives(zone, group);
                int on = zone + 1 < zones ? x.carried(zone + 1, group, 0) : x.left(group, 0);
                is("Term OFF: what is carried to a zone less what is carried on", x.off(zone, group), x.carried(zone, group, 0) - on);
            }
            is("What it is: all together are exact", x.all(group, 0) * unit + x.left(group, 0), people);
            for (int level = 1; level < LEVELS; level++) {
                is("Term LEVEL: all together are exact, too", x.all(group, level) * factor + x.left(group, level), x.all(group, level - 1));
            }
        }
    }

    private void orders() {
        DotSpreader x = made();
        int land = 0;
        for (int zone = 0; zone < zones; zone++) {
            land += x.zone(zone, 1);
            is("Promise 14: behind the last", x.order(zone, x.zone(zone, 1)), NONE);
            for (int k = 0; k < x.zone(zone, 1); k++) {
                int cell = x.order(zone, k);
                is("Promise 14: a cell of the zone", x.cell(cell, 0) * 2 + x.cell(cell, 1), zone * 2);
                is("Promise 15: where it stands", x.stands(cell), k);
            }
        }
        is("Promise 44: land of zones", x.count(5), land);
    }

    private void places() {
        for (int level = 0; level < LEVELS; level++) {
            DotSpreader x = made();
            int zone = random.nextInt(zones);
            int group = random.nextInt(groups);
            int l = level;
            int dots = x.dots(zone, group, level);
            int[] crowd = new int[cells()];
            for (int k = 0; k < Math.min(dots, 60); k++) {
                int cell = x.dot(zone, group, level, k);
                crowd[cell]++;
                is("Term DOT: at k times GROUPS and g", x.stands(cell), (k * groups + group) % x.zone(zone, 1));
            }
            for (int cell = 0; cell < cells() && dots <= 60; cell++) {
                if (x.cell(cell, 0) == zone) {
                    is("Term CROWD: how many dots stand on it", x.crowd(cell, group, level), crowd[cell]);
                }
            }
            Check.refusesMissing("Promise 20: behind the last" + which, () -> x.dot(zone, group, l, dots));
        }
    }

    private void sums() {
        int level = random.nextInt(2);
        DotSpreader x = made();
        int all = 0;
        for (int group = 0; group < groups; group++) {
            int crowd = 0;
            int dots = 0;
            for (int cell = 0; cell < cells(); cell++) {
                crowd += x.crowd(cell, group, level);
            }
            for (int zone = 0; zone < zones; zone++) {
                dots += x.dots(zone, group, level);
            }
            is("Promise 19: dots of all zones", x.all(group, level), dots);
            is("Promise 21: all dots stand on cells", crowd, dots);
            all += dots;
        }
        is("Promise 19: of all groups", x.all(NONE, level), all);
        int rows = 0;
        int columns = 0;
        for (int row = 0; row < height; row++) {
            rows += x.line(false, row, level);
        }
        for (int column = 0; column < width; column++) {
            columns += x.line(true, column, level);
        }
        is("Promise 38: all rows", rows, all);
        is("Promise 38: all columns", columns, all);
    }

    private void levels() {
        for (int level = 1; level < LEVELS; level++) {
            DotSpreader x = made();
            is("What it is: each with less dots", x.all(NONE, level) <= x.all(NONE, level - 1) / factor ? 1 : 0, 1);
            for (int cell = 0; cell < cells(); cell++) {
                for (int group = 0; group < groups; group++) {
                    boolean finer = x.crowd(cell, group, level) <= x.crowd(cell, group, level - 1);
                    is("What it is: all of them where those of the finer one are", finer ? 1 : 0, 1);
                }
            }
        }
    }

    // ---- the map ----

    private void counts() {
        DotSpreader x = made();
        is("Promise 44: sea, land and the rest are all cells", x.count(4) + x.count(5) + x.count(6), cells());
        int borders = 0;
        int owned = 0;
        for (int zone = 0; zone < zones; zone++) {
            borders += x.zone(zone, 4);
            owned += x.zone(zone, 0);
            int runs = 0;
            int columns = 0;
            int parts = 0;
            for (int row = 0; row < height; row++) {
                int inRow = x.run(zone, row, NONE, false);
                runs += inRow;
                for (int k = 0; k < inRow; k++) {
                    columns += x.run(zone, row, k, true) - x.run(zone, row, k, false) + 1;
                }
            }
            for (int cell = 0; cell < cells(); cell++) {
                if (x.cell(cell, 0) == zone) {
                    parts = Math.max(parts, x.part(cell) + 1);
                }
            }
            is("Promise 7: runs in all", x.zone(zone, 5), runs);
            is("Term RUNS: they are its land", columns, x.zone(zone, 1));
            is("Promise 7: parts", x.zone(zone, 2), parts);
        }
        is("Term BORDER: each has two sides", borders % 2, 0);
        int none = 0;
        for (int cell = 0; cell < cells(); cell++) {
            none += x.cell(cell, 0) == NONE ? 1 : 0;
        }
        is("Term CELLS: of one zone or none", owned + none, cells());
    }

    private void written() {
        DotSpreader x = made();
        StringBuilder again = new StringBuilder("size " + width + " " + height + ";");
        for (int zone = 0; zone < zones; zone++) {
            again.append("zone ").append((char) x.name(zone, 0)).append(" people 0;");
        }
        int head = again.length();
        for (int zone = 0; zone < zones; zone++) {
            DotSpreader writer = made();
            is("Promise 44: bytes", writer.write(zone), writer.count(9));
            again.append(Check.written(writer));
            is("Promise 42: how many bytes", again.length() - head, writer.count(9));
            head = again.length();
        }
        if (again.length() <= 400) {
            DotSpreader y = Check.map(again.toString());
            for (int cell = 0; cell < cells(); cell++) {
                is("What it is: zones written as runs again", y.cell(cell, 0), isLand(x, cell) ? x.cell(cell, 0) : NONE);
            }
        }
    }

    // ---- edges ----

    private void triedAndMoved() {
        DotSpreader before = made();
        DotSpreader after = made();
        int zone = random.nextInt(zones);
        int other = (zone + 1) % zones;
        int row = random.nextInt(height);
        int from = random.nextInt(width);
        int to = from + random.nextInt(width - from);
        int level = random.nextInt(2);
        int fresh = 0;
        int moved = after.move(zone, other, row, from, to);
        for (int cell = 0; cell < cells(); cell++) {
            boolean goes = before.cell(cell, 0) == zone && cell / width == row && cell % width >= from && cell % width <= to;
            moved -= goes ? 1 : 0;
            is("Term AN EDGE: whose cells", after.cell(cell, 0), goes ? other : before.cell(cell, 0));
            for (int group = 0; group < groups; group++) {
                fresh += Math.max(0, after.crowd(cell, group, level) - before.crowd(cell, group, level));
            }
        }
        is("Promise 24: how many cells", moved, 0);
        is("Term TRIED: new ones, as when it is moved", before.tries(zone, other, row, from, to, level), fresh);
        int less = before.zone(zone, 1) - after.zone(zone, 1);
        for (int group = 0; group < groups; group++) {
            int go = before.zone(zone, 1) == 0 ? 0 : before.lives(zone, group) * less / before.zone(zone, 1);
            is("Term AN EDGE: who stays", after.lives(zone, group), before.lives(zone, group) - go);
            is("Term AN EDGE: who comes", after.lives(other, group), before.lives(other, group) + go);
        }
    }

    /** With the last of its land all its people go, so that a zone moved row by row is joined. */
    private void joinedByMoves() {
        DotSpreader x = made();
        DotSpreader y = made();
        int zone = random.nextInt(zones);
        int other = (zone + 1) % zones;
        if (x.zone(other, 1) == 0) {
            return;
        }
        for (int row = 0; row < height; row++) {
            y.move(other, zone, row, 0, width - 1);
        }
        for (int level = 0; level < LEVELS; level++) {
            int dots = 0;
            for (int group = 0; group < groups; group++) {
                dots += y.dots(zone, group, level);
            }
            is("Term JOINED: as when all its rows are moved", x.joined(zone, other, level), dots);
        }
    }

    private void fitsAndScale() {
        int n = random.nextInt(40);
        DotSpreader x = made();
        int least = x.fits(n);
        x.unit(least);
        is("Term FITS: not more than n", x.all(NONE, 0) <= n ? 1 : 0, 1);
        if (least > 1) {
            x.unit(least - 1);
            is("Term FITS: the least unit", x.all(NONE, 0) > n ? 1 : 0, 1);
        }
        DotSpreader y = made();
        int level = y.scale(n);
        for (int l = 0; l < LEVELS; l++) {
            boolean first = y.all(NONE, l) <= n && (l == 0 || y.all(NONE, l - 1) > n);
            is("Term SCALE: the least level", first ? 1 : 0, l == level ? 1 : 0);
        }
    }

    // ---- CELLS with DOTS ----

    private void nearest() {
        DotSpreader x = made();
        int level = random.nextInt(3);
        List<Integer> spots = withDots(x, level);
        int served = 0;
        for (int cell = 0; cell < cells(); cell++) {
            int due = NONE;
            for (int spot : spots) {
                due = due == NONE || far(cell, spot) < far(cell, due) ? spot : due;
            }
            is("Term NEAREST: the least FAR, the least of several", x.nearest(cell, level), due);
            is("Term MEASURES: 2", x.measure(cell, 2, level, 0), due == NONE ? -1 : far(cell, due));
            served += x.served(cell, level);
        }
        is("Term SERVED: each cell of land by one", served, spots.isEmpty() ? 0 : x.count(5));
    }

    private void measures() {
        for (int measure = 0; measure < 5; measure++) {
            DotSpreader x = made();
            int n = random.nextInt(12);
            int best = NONE;
            int greatest = 0;
            for (int cell = 0; cell < cells(); cell++) {
                int value = x.measure(cell, measure, 0, n);
                if (isLand(x, cell) && (best == NONE || value > greatest)) {
                    best = cell;
                    greatest = value;
                }
            }
            is("Term BEST: by measure " + measure, x.best(measure, 0, n), best);
        }
        DotSpreader x = made();
        for (int cell = 0; cell < cells(); cell++) {
            is("Term MEASURES: 0", x.measure(cell, 0, 0, 0), x.crowd(cell, NONE, 0));
            is("Term MEASURES: 1, n 0", x.measure(cell, 1, 0, 0), x.crowd(cell, NONE, 0));
            is("Term MEASURES: 1, n 999", x.measure(cell, 1, 0, 999), x.all(NONE, 0));
            is("Term MEASURES: 3 is 0 on the sea alone", x.measure(cell, 3, 0, 0) == 0 ? 1 : 0, x.cell(cell, 1));
        }
    }

    private void thinned() {
        DotSpreader x = made();
        int level = random.nextInt(2);
        int n = random.nextInt(12);
        int at = 0;
        List<Integer> kept = new ArrayList<>();
        for (int spot : withDots(x, level)) {
            boolean near = kept.stream().anyMatch(one -> far(one, spot) < n);
            if (!near) {
                kept.add(spot);
                is("Term THINNED: kept", x.thinned(level, n, at), spot);
                at++;
            }
        }
        is("Term THINNED: no other", x.thinned(level, n, at), NONE);
        is("Promise 32: how many", x.thinned(level, n, NONE), at);
    }

    private void tours() {
        DotSpreader x = made();
        int level = random.nextInt(2);
        List<Integer> open = withDots(x, level);
        is("Promise 33: all cells with dots", x.tour(level, NONE), open.size());
        int here = open.isEmpty() ? NONE : open.get(0);
        int way = 0;
        int apart = NONE;
        for (int k = 0; !open.isEmpty(); k++) {
            int next = NONE;
            for (int spot : open) {
                next = next == NONE || far(spot, here) < far(next, here) ? spot : next;
            }
            way += far(here, next);
            is("Term TOUR: the least FAR, of several the least", x.tour(level, k), next);
            here = next;
            open.remove(Integer.valueOf(next));
            for (int spot : open) {
                apart = apart == NONE ? far(here, spot) : Math.min(apart, far(here, spot));
            }
        }
        is("Term WAY: all steps", x.way(level), way);
        is("Term APART: the least of two", x.apart(level), apart);
    }

    // ---- HULL and MIDDLE ----

    private long side(int one, int two, int three) {
        long across = two % width - one % width;
        long down = two / width - one / width;
        return across * (three / width - one / width) - down * (three % width - one % width);
    }

    private void hulls() {
        DotSpreader x = made();
        int level = random.nextInt(3);
        List<Integer> spots = withDots(x, level);
        int corners = x.hull(level, NONE);
        int area = 0;
        for (int k = 0; k < corners; k++) {
            int one = x.hull(level, k);
            int two = x.hull(level, (k + 1) % corners);
            is("Term HULL: a corner has dots", spots.contains(one) ? 1 : 0, 1);
            is("Term HULL: the least first", k == 0 || one > x.hull(level, 0) ? 1 : 0, 1);
            for (int spot : spots) {
                boolean within = side(one, two, spot) >= 0;
                boolean straight = side(one, two, spot) == 0 && spot != one && spot != two;
                is("Term HULL: it has all cells with dots", within ? 1 : 0, 1);
                is("Term HULL: no corner on a straight side", straight && isCorner(x, level, corners, spot) ? 1 : 0, 0);
            }
            area += (one % width) * (two / width) - (two % width) * (one / width);
        }
        is("Term HULL: the least cell", x.hull(level, 0), spots.isEmpty() ? NONE : spots.get(0));
        is("Term AREA2: twice its area", x.area(level), area);
    }

    private static boolean isCorner(DotSpreader x, int level, int corners, int cell) {
        for (int k = 0; k < corners; k++) {
            if (x.hull(level, k) == cell) {
                return true;
            }
        }
        return false;
    }

    private void middles() {
        for (int group = NONE; group < groups; group++) {
            DotSpreader x = made();
            int[] crowd = new int[cells()];
            int all = 0;
            for (int cell = 0; cell < cells(); cell++) {
                crowd[cell] = x.crowd(cell, group, 1);
                all += crowd[cell];
            }
            int due = NONE;
            long least = 0;
            for (int cell = 0; cell < cells() && all > 0; cell++) {
                long sum = 0;
                for (int other = 0; other < cells(); other++) {
                    sum += (long) crowd[other] * far(cell, other);
                }
                if (due == NONE || sum < least) {
                    due = cell;
                    least = sum;
                }
            }
            is("Term MIDDLE: from which all dots together are least", x.middle(group, 1), due);
        }
    }
}
