import java.util.ArrayList;
import java.util.HashSet;
import java.util.List;
import java.util.NoSuchElementException;
import java.util.Set;

/**
 * The document said once more, as plainly and slowly as it can be: dot by dot, nothing kept but what is dear.
 * RandomTest holds it beside DotSpreader.
 */
final class Naive {
    private static final int NONE = -1;

    int width;
    int height;
    int groups = 1;
    List<String> names = new ArrayList<>();
    List<int[]> living = new ArrayList<>();
    int[] owner = new int[0];
    boolean[] sea = new boolean[0];
    int unit = 100;
    int factor = 5;
    private final StringBuilder tape = new StringBuilder();
    private String written = "";
    private int fault = NONE;
    private List<List<Integer>> orders;
    private final int[][][] stood = new int[5][][];

    int cells() {
        return width * height;
    }

    int zones() {
        return names.size();
    }

    private void changed() {
        orders = null;
        for (int level = 0; level < 5; level++) {
            stood[level] = null;
        }
    }

    private static void index(boolean fine) {
        if (!fine) {
            throw new IndexOutOfBoundsException();
        }
    }

    private static void legal(boolean fine) {
        if (!fine) {
            throw new IllegalArgumentException();
        }
    }

    private static void there(boolean fine) {
        if (!fine) {
            throw new NoSuchElementException();
        }
    }

    private static boolean in(int n, int bound) {
        return n >= 0 && n < bound;
    }

    // ---- the text ----

    public int feed(int a, int b, int c, int d, int e) {
        if (tape.length() > 380) {
            return NONE;
        }
        for (int number : new int[] {a, b, c, d, e}) {
            tape.append((char) (number >>> 24)).append((char) (number >>> 16 & 255));
            tape.append((char) (number >>> 8 & 255)).append((char) (number & 255));
        }
        return tape.length();
    }

    public boolean end(int n) {
        if (n < 0 || n > tape.length()) {
            return false;
        }
        tape.setLength(n);
        return true;
    }

    /** A token: a word, a number, a sign; its text is empty at the end. */
    private record Token(String text, int at) {
        boolean isWord() {
            return !text.isEmpty() && text.charAt(0) >= 'a' && text.charAt(0) <= 'z';
        }

        int value(int least, int most) {
            if (!text.matches("[0-9]{1,5}") || Integer.parseInt(text) < least || Integer.parseInt(text) > most) {
                throw new Wrong(at);
            }
            return Integer.parseInt(text);
        }

        void must(String due) {
            if (!text.equals(due)) {
                throw new Wrong(at);
            }
        }
    }

    private static final class Wrong extends RuntimeException {
        private static final long serialVersionUID = 1;
        final int at;

        Wrong(int at) {
            this.at = at;
        }
    }

    private static List<Token> tokens(String text) {
        List<Token> found = new ArrayList<>();
        java.util.regex.Matcher m = java.util.regex.Pattern.compile("[a-z]+|[0-9]+|[^\\t\\n ]").matcher(text);
        while (m.find()) {
            found.add(new Token(m.group(), m.start()));
        }
        return found;
    }

    private static final class Draft {
        final Naive map = new Naive();
        final List<Token> tokens;
        final int length;
        int next = 0;
        boolean groupsTold = false;

        Draft(String text) {
            tokens = tokens(text);
            length = text.length();
        }

        Token take() {
            return next < tokens.size() ? tokens.get(next++) : new Token("", length);
        }

        boolean atEnd() {
            return next == tokens.size();
        }

        void readAll() {
            take().must("size");
            map.width = take().value(2, 24);
            map.height = take().value(2, 16);
            take().must(";");
            map.owner = new int[map.cells()];
            java.util.Arrays.fill(map.owner, NONE);
            map.sea = new boolean[map.cells()];
            while (!atEnd()) {
                Token word = take();
                switch (word.text) {
                    case "groups" -> readGroups(word);
                    case "zone" -> readZone(word);
                    case "row" -> {
                        Token name = take();
                        if (!map.names.contains(name.text)) {
                            throw new Wrong(name.at);
                        }
                        readRuns(map.names.indexOf(name.text));
                    }
                    case "sea" -> readRuns(NONE);
                    default -> throw new Wrong(word.at);
                }
            }
        }

        void readGroups(Token word) {
            if (groupsTold || !map.names.isEmpty()) {
                throw new Wrong(word.at);
            }
            groupsTold = true;
            map.groups = take().value(1, 3);
            take().must(";");
        }

        void readZone(Token word) {
            if (map.zones() == 8) {
                throw new Wrong(word.at);
            }
            Token name = take();
            boolean reserved = List.of("size", "groups", "zone", "people", "row", "sea").contains(name.text);
            if (!name.isWord() || name.text.length() > 6 || reserved || map.names.contains(name.text)) {
                throw new Wrong(name.at);
            }
            take().must("people");
            int[] people = new int[3];
            for (int group = 0; group < map.groups; group++) {
                if (group > 0) {
                    take().must(",");
                }
                people[group] = take().value(0, 99999);
            }
            take().must(";");
            map.names.add(name.text);
            map.living.add(people);
        }

        void readRuns(int zone) {
            int row = take().value(0, map.height - 1);
            take().must(":");
            while (true) {
                readRun(zone, row);
                Token behind = take();
                if (behind.text.equals(";")) {
                    return;
                }
                behind.must(",");
            }
        }

        void readRun(int zone, int row) {
            Token start = take();
            int first = start.value(0, map.width - 1);
            refuseOther(zone, row, first, start);
            take().must("-");
            int last = take().value(first, map.width - 1);
            for (int column = first; column <= last; column++) {
                refuseOther(zone, row, column, start);
            }
            for (int column = first; column <= last; column++) {
                if (zone == NONE) {
                    map.sea[row * map.width + column] = true;
                } else {
                    map.owner[row * map.width + column] = zone;
                }
            }
        }

        void refuseOther(int zone, int row, int column, Token start) {
            int owner = map.owner[row * map.width + column];
            if (zone != NONE && owner != NONE && owner != zone) {
                throw new Wrong(start.at);
            }
        }
    }

    public int read() {
        Draft draft = new Draft(tape.toString());
        tape.setLength(0);
        fault = NONE;
        try {
            draft.readAll();
        } catch (Wrong e) {
            fault = e.at;
        }
        legal(fault == NONE);
        takeMap(draft.map);
        return zones();
    }

    private void takeMap(Naive other) {
        width = other.width;
        height = other.height;
        groups = other.groups;
        names = new ArrayList<>(other.names);
        living = new ArrayList<>();
        for (int[] people : other.living) {
            living.add(people.clone());
        }
        owner = other.owner.clone();
        sea = other.sea.clone();
        changed();
    }

    private Naive copy() {
        Naive other = new Naive();
        other.takeMap(this);
        other.unit = unit;
        other.factor = factor;
        return other;
    }

    public int fault() {
        return fault;
    }

    // ---- the map ----

    private int far(int a, int b) {
        int across = a % width - b % width;
        int down = a / width - b / width;
        return across * across + down * down;
    }

    private boolean land(int cell) {
        return owner[cell] >= 0 && !sea[cell];
    }

    private boolean land(int zone, int row, int column) {
        return in(row, height) && in(column, width) && owner[row * width + column] == zone
                && !sea[row * width + column];
    }

    private List<Integer> landOf(int zone) {
        List<Integer> found = new ArrayList<>();
        for (int cell = 0; cell < cells(); cell++) {
            if (owner[cell] == zone && !sea[cell]) {
                found.add(cell);
            }
        }
        return found;
    }

    public int cell(int cell, int what) {
        index(in(cell, cells()));
        there(in(what, 2));
        return what == 0 ? owner[cell] : sea[cell] ? 1 : 0;
    }

    private boolean touch(int a, int b) {
        return far(a, b) == 1;
    }

    /** The part of each cell of a zone's land: all begin alone, and touching ones become one. */
    private int[] partsOf(int zone) {
        int[] part = new int[cells()];
        List<Integer> land = landOf(zone);
        for (int cell : land) {
            part[cell] = cell;
        }
        boolean more = true;
        while (more) {
            more = false;
            for (int a : land) {
                for (int b : land) {
                    if (touch(a, b) && part[b] < part[a]) {
                        part[a] = part[b];
                        more = true;
                    }
                }
            }
        }
        return part;
    }

    private int sides(int zone, boolean shore) {
        int found = 0;
        for (int cell : landOf(zone)) {
            for (int other = 0; other < cells(); other++) {
                if (touch(cell, other) && (shore ? sea[other] : land(other) && owner[other] != zone)) {
                    found++;
                }
            }
        }
        return found;
    }

    private List<int[]> runs(int zone, int row) {
        List<int[]> found = new ArrayList<>();
        for (int from = 0; from < width; from++) {
            int to = from;
            while (land(zone, row, to)) {
                to++;
            }
            if (to > from && !land(zone, row, from - 1)) {
                found.add(new int[] {from, to - 1});
            }
        }
        return found;
    }

    public int zone(int zone, int what) {
        index(in(zone, zones()));
        there(in(what, 6));
        int runs = 0;
        for (int row = 0; row < height; row++) {
            runs += runs(zone, row).size();
        }
        int all = 0;
        for (int cell = 0; cell < cells(); cell++) {
            all += owner[cell] == zone ? 1 : 0;
        }
        Set<Integer> parts = new HashSet<>();
        int[] part = partsOf(zone);
        landOf(zone).forEach(cell -> parts.add(part[cell]));
        return new int[] {all, landOf(zone).size(), parts.size(), sides(zone, true), sides(zone, false), runs}[what];
    }

    public int name(int zone, int k) {
        index(in(zone, zones()));
        return in(k, names.get(zone).length()) ? names.get(zone).charAt(k) : NONE;
    }

    public int people(int zone, int group, int n) {
        index(in(zone, zones()) && in(group, groups));
        legal(in(n, 100000));
        int before = living.get(zone)[group];
        living.get(zone)[group] = n;
        changed();
        return before;
    }

    public int lives(int zone, int group) {
        index(in(zone, zones()) && in(group, groups));
        return living.get(zone)[group];
    }

    public boolean flood(int cell, boolean wet) {
        index(in(cell, cells()));
        boolean fresh = sea[cell] != wet;
        sea[cell] = wet;
        changed();
        return fresh;
    }

    public int unit(int n) {
        legal(n >= 1 && n <= 9999);
        int before = unit;
        unit = n;
        changed();
        return before;
    }

    public int factor(int n) {
        legal(n >= 2 && n <= 10);
        int before = factor;
        factor = n;
        changed();
        return before;
    }

    // ---- the order and the dots ----

    private List<Integer> orderOf(int zone) {
        if (orders == null) {
            orders = new ArrayList<>();
            for (int z = 0; z < zones(); z++) {
                orders.add(spread(landOf(z)));
            }
        }
        return orders.get(zone);
    }

    private List<Integer> spread(List<Integer> land) {
        List<Integer> order = new ArrayList<>();
        List<Integer> rest = new ArrayList<>(land);
        while (!rest.isEmpty()) {
            int best = NONE;
            long bestValue = 0;
            for (int cell : rest) {
                long value = 0;
                if (order.isEmpty()) {
                    for (int other : land) {
                        value -= far(cell, other);
                    }
                } else {
                    value = Long.MAX_VALUE;
                    for (int other : order) {
                        value = Math.min(value, far(cell, other));
                    }
                }
                if (best == NONE || value > bestValue) {
                    best = cell;
                    bestValue = value;
                }
            }
            order.add(best);
            rest.remove(Integer.valueOf(best));
        }
        return order;
    }

    public int order(int zone, int k) {
        index(in(zone, zones()));
        return in(k, orderOf(zone).size()) ? orderOf(zone).get(k) : NONE;
    }

    public int stands(int cell) {
        index(in(cell, cells()));
        return owner[cell] < 0 ? NONE : orderOf(owner[cell]).indexOf(cell);
    }

    /** By zones: dots, what is carried to the zone; behind the last zone what is left. */
    private int[][] share(int group, int level, int size) {
        int[][] ahead = level == 0 ? null : share(group, level - 1, level == 1 ? unit : factor);
        int[][] found = new int[zones() + 1][2];
        int carry = 0;
        for (int zone = 0; zone < zones(); zone++) {
            found[zone][1] = carry;
            carry += level == 0 ? living.get(zone)[group] : ahead[zone][0];
            if (!landOf(zone).isEmpty()) {
                found[zone][0] = carry / size;
                carry %= size;
            }
        }
        found[zones()][1] = carry;
        return found;
    }

    private int[][] share(int group, int level) {
        return share(group, level, level == 0 ? unit : factor);
    }

    public int dots(int zone, int group, int level) {
        index(in(zone, zones()) && in(group, groups) && in(level, 5));
        return share(group, level)[zone][0];
    }

    public int carried(int zone, int group, int level) {
        index(in(zone, zones()) && in(group, groups) && in(level, 5));
        return share(group, level)[zone][1];
    }

    public int left(int group, int level) {
        index(in(group, groups) && in(level, 5));
        return share(group, level)[zones()][1];
    }

    public int all(int group, int level) {
        index((group == NONE || in(group, groups)) && in(level, 5));
        int sum = 0;
        for (int g = 0; g < groups; g++) {
            for (int zone = 0; zone < zones() && (group == NONE || group == g); zone++) {
                sum += share(g, level)[zone][0];
            }
        }
        return sum;
    }

    private int place(int zone, int group, int k) {
        return orderOf(zone).get((k * groups + group) % orderOf(zone).size());
    }

    public int dot(int zone, int group, int level, int k) {
        index(in(zone, zones()) && in(group, groups) && in(level, 5));
        there(in(k, share(group, level)[zone][0]));
        return place(zone, group, k);
    }

    /** [group][cell], all groups together behind the last. */
    private int[][] standing(int level) {
        if (stood[level] == null) {
            int[][] found = new int[groups + 1][cells()];
            for (int group = 0; group < groups; group++) {
                int[][] share = share(group, level);
                for (int zone = 0; zone < zones(); zone++) {
                    for (int k = 0; k < share[zone][0]; k++) {
                        int cell = place(zone, group, k);
                        found[group][cell]++;
                        found[groups][cell]++;
                    }
                }
            }
            stood[level] = found;
        }
        return stood[level];
    }

    public int crowd(int cell, int group, int level) {
        index(in(cell, cells()) && (group == NONE || in(group, groups)) && in(level, 5));
        return standing(level)[group == NONE ? groups : group][cell];
    }

    private List<Integer> spots(int level) {
        List<Integer> found = new ArrayList<>();
        for (int cell = 0; cell < cells(); cell++) {
            if (standing(level)[groups][cell] > 0) {
                found.add(cell);
            }
        }
        return found;
    }

    public int apart(int level) {
        index(in(level, 5));
        int least = NONE;
        for (int a : spots(level)) {
            for (int b : spots(level)) {
                if (a != b && (least == NONE || far(a, b) < least)) {
                    least = far(a, b);
                }
            }
        }
        return least;
    }

    public int off(int zone, int group) {
        index(in(zone, zones()) && in(group, groups));
        return share(group, 0)[zone][0] * unit - living.get(zone)[group];
    }

    // ---- edges ----

    public int move(int zone, int other, int row, int from, int to) {
        index(in(zone, zones()) && in(other, zones()) && in(row, height));
        legal(zone != other && from >= 0 && from <= to && to < width);
        int before = landOf(zone).size();
        int moved = 0;
        for (int column = from; column <= to; column++) {
            if (owner[row * width + column] == zone) {
                owner[row * width + column] = other;
                moved++;
            }
        }
        int less = before - landOf(zone).size();
        for (int group = 0; group < groups && before > 0; group++) {
            int go = (int) ((long) living.get(zone)[group] * less / before);
            living.get(zone)[group] -= go;
            living.get(other)[group] = Math.min(99999, living.get(other)[group] + go);
        }
        changed();
        return moved;
    }

    public int tries(int zone, int other, int row, int from, int to, int level) {
        index(in(zone, zones()) && in(other, zones()) && in(row, height) && in(level, 5));
        Naive tried = copy();
        tried.move(zone, other, row, from, to);
        int more = 0;
        for (int group = 0; group < groups; group++) {
            for (int cell = 0; cell < cells(); cell++) {
                more += Math.max(0, tried.standing(level)[group][cell] - standing(level)[group][cell]);
            }
        }
        return more;
    }

    public int run(int zone, int row, int k, boolean last) {
        index(in(zone, zones()) && in(row, height));
        List<int[]> runs = runs(zone, row);
        return k == NONE ? runs.size() : in(k, runs.size()) ? runs.get(k)[last ? 1 : 0] : NONE;
    }

    public int part(int cell) {
        index(in(cell, cells()));
        if (!land(cell)) {
            return NONE;
        }
        int[] part = partsOf(owner[cell]);
        Set<Integer> ahead = new HashSet<>();
        for (int other : landOf(owner[cell])) {
            if (part[other] < part[cell]) {
                ahead.add(part[other]);
            }
        }
        return ahead.size();
    }

    // ---- measures ----

    private int value(int cell, int measure, int level, int n) {
        int sum = 0;
        int least = NONE;
        for (int other = 0; other < cells(); other++) {
            int crowd = standing(level)[groups][other];
            boolean line = other / width == cell / width || other % width == cell % width;
            boolean target = measure == 2 ? crowd > 0 : sea[other];
            if (measure == 1 && far(cell, other) <= n) {
                sum += crowd;
            }
            if (measure == 4 && line && crowd > 0) {
                sum++;
            }
            if (target && (least == NONE || far(cell, other) < least)) {
                least = far(cell, other);
            }
        }
        return measure == 0 ? standing(level)[groups][cell] : measure == 2 || measure == 3 ? least : sum;
    }

    public int measure(int cell, int measure, int level, int n) {
        index(in(cell, cells()) && in(level, 5));
        there(in(measure, 5));
        legal(in(n, 1000));
        return value(cell, measure, level, n);
    }

    public int best(int measure, int level, int n) {
        index(in(level, 5));
        there(in(measure, 5));
        legal(in(n, 1000));
        int best = NONE;
        for (int cell = cells() - 1; cell >= 0; cell--) {
            if (land(cell) && (best == NONE || value(cell, measure, level, n) >= value(best, measure, level, n))) {
                best = cell;
            }
        }
        return best;
    }

    public int nearest(int cell, int level) {
        index(in(cell, cells()) && in(level, 5));
        int best = NONE;
        for (int spot : spots(level)) {
            if (best == NONE || far(cell, spot) < far(cell, best)) {
                best = spot;
            }
        }
        return best;
    }

    public int served(int cell, int level) {
        index(in(cell, cells()) && in(level, 5));
        int found = 0;
        for (int other = 0; other < cells(); other++) {
            found += land(other) && nearest(other, level) == cell ? 1 : 0;
        }
        return found;
    }

    // ---- paths ----

    private static int pick(List<Integer> list, int k) {
        return k == NONE ? list.size() : in(k, list.size()) ? list.get(k) : NONE;
    }

    public int thinned(int level, int n, int k) {
        index(in(level, 5));
        legal(in(n, 1000));
        List<Integer> kept = new ArrayList<>();
        for (int spot : spots(level)) {
            if (kept.stream().allMatch(other -> far(spot, other) >= n)) {
                kept.add(spot);
            }
        }
        return pick(kept, k);
    }

    private List<Integer> tourOf(int level) {
        List<Integer> rest = spots(level);
        List<Integer> tour = new ArrayList<>();
        while (!rest.isEmpty()) {
            int best = rest.get(0);
            for (int spot : rest) {
                if (!tour.isEmpty() && far(spot, tour.get(tour.size() - 1)) < far(best, tour.get(tour.size() - 1))) {
                    best = spot;
                }
            }
            tour.add(best);
            rest.remove(Integer.valueOf(best));
        }
        return tour;
    }

    public int tour(int level, int k) {
        index(in(level, 5));
        return pick(tourOf(level), k);
    }

    public int way(int level) {
        index(in(level, 5));
        List<Integer> tour = tourOf(level);
        int sum = 0;
        for (int k = 1; k < tour.size(); k++) {
            sum += far(tour.get(k - 1), tour.get(k));
        }
        return sum;
    }

    private int cross(int a, int b, int c) {
        return (b % width - a % width) * (c / width - a / width) - (b / width - a / width) * (c % width - a % width);
    }

    /** A gift wrapped: from each corner to that one that has all others on one hand, the farthest of several. */
    private List<Integer> hullOf(int level) {
        List<Integer> spots = spots(level);
        List<Integer> hull = new ArrayList<>();
        if (spots.isEmpty()) {
            return hull;
        }
        int corner = spots.get(0);
        do {
            hull.add(corner);
            int next = corner;
            for (int spot : spots) {
                int turn = next == corner ? -1 : cross(corner, next, spot);
                if (spot != corner && (turn < 0 || turn == 0 && far(corner, spot) > far(corner, next))) {
                    next = spot;
                }
            }
            corner = next;
        } while (corner != spots.get(0) && hull.size() < 400);
        return hull;
    }

    public int hull(int level, int k) {
        index(in(level, 5));
        return pick(hullOf(level), k);
    }

    public int area(int level) {
        index(in(level, 5));
        List<Integer> hull = hullOf(level);
        int sum = 0;
        for (int k = 2; k < hull.size(); k++) {
            sum += cross(hull.get(0), hull.get(k - 1), hull.get(k));
        }
        return sum;
    }

    public int middle(int group, int level) {
        index((group == NONE || in(group, groups)) && in(level, 5));
        int best = NONE;
        long least = 0;
        int[] standing = standing(level)[group == NONE ? groups : group];
        for (int cell = 0; cell < cells(); cell++) {
            long sum = 0;
            long dots = 0;
            for (int other = 0; other < cells(); other++) {
                sum += (long) standing[other] * far(cell, other);
                dots += standing[other];
            }
            if (dots > 0 && (best == NONE || sum < least)) {
                best = cell;
                least = sum;
            }
        }
        return best;
    }

    public int line(boolean column, int at, int level) {
        index(in(at, column ? width : height) && in(level, 5));
        int sum = 0;
        for (int cell = 0; cell < cells(); cell++) {
            sum += (column ? cell % width : cell / width) == at ? standing(level)[groups][cell] : 0;
        }
        return sum;
    }

    // ---- the rest ----

    public int joined(int zone, int other, int level) {
        index(in(zone, zones()) && in(other, zones()) && in(level, 5));
        legal(zone != other);
        Naive tried = copy();
        for (int cell = 0; cell < cells(); cell++) {
            tried.owner[cell] = owner[cell] == other ? zone : owner[cell];
        }
        int sum = 0;
        for (int group = 0; group < groups; group++) {
            int together = living.get(zone)[group] + living.get(other)[group];
            tried.living.get(zone)[group] = Math.min(99999, together);
            tried.living.get(other)[group] = 0;
            sum += tried.share(group, level)[zone][0];
        }
        return sum;
    }

    public int fits(int n) {
        boolean[] dry = new boolean[zones()];
        for (int zone = 0; zone < zones(); zone++) {
            dry[zone] = !landOf(zone).isEmpty();
        }
        for (int size = 1; size <= 9999; size++) {
            int sum = 0;
            for (int group = 0; group < groups; group++) {
                int carry = 0;
                for (int zone = 0; zone < zones(); zone++) {
                    carry += living.get(zone)[group];
                    sum += dry[zone] ? carry / size : 0;
                    carry = dry[zone] ? carry % size : carry;
                }
            }
            if (sum <= n) {
                return size;
            }
        }
        return NONE;
    }

    public int scale(int n) {
        for (int level = 0; level < 5; level++) {
            if (all(NONE, level) <= n) {
                return level;
            }
        }
        return NONE;
    }

    public int write(int zone) {
        index(in(zone, zones()));
        StringBuilder text = new StringBuilder();
        for (int row = 0; row < height; row++) {
            List<String> runs = new ArrayList<>();
            runs(zone, row).forEach(run -> runs.add(run[0] + "-" + run[1]));
            if (!runs.isEmpty()) {
                text.append("row " + names.get(zone) + " " + row + ": " + String.join(", ", runs) + ";");
            }
        }
        written = text.toString();
        return written.length();
    }

    public int octet(int k) {
        return in(k, written.length()) ? written.charAt(k) : NONE;
    }

    public int count(int what) {
        int wet = 0;
        int dry = 0;
        for (int cell = 0; cell < cells(); cell++) {
            wet += sea[cell] ? 1 : 0;
            dry += land(cell) ? 1 : 0;
        }
        int people = 0;
        for (int[] one : living) {
            people += one[0] + one[1] + one[2];
        }
        int[] counts = {width, height, zones(), groups, wet, dry, cells() - wet - dry, unit, factor,
            written.length(), people};
        return in(what, counts.length) ? counts[what] : NONE;
    }
}
