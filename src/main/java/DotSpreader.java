import java.util.Arrays;
import java.util.NoSuchElementException;

/** Maps of dots, one for so many people: the document ../shared/DOC.md says what each call answers. */
public final class DotSpreader {
    public static final int NONE = -1;

    private static final int MOST_WIDTH = 24;
    private static final int MOST_HEIGHT = 16;
    private static final int MOST_CELLS = 384;
    private static final int MOST_ZONES = 8;
    private static final int MOST_GROUPS = 3;
    private static final int MOST_LETTERS = 6;
    private static final int MOST_DIGITS = 5;
    private static final int MOST_PEOPLE = 99999;
    private static final int MOST_UNIT = 9999;
    private static final int LEAST_FACTOR = 2;
    private static final int MOST_FACTOR = 10;
    private static final int MOST_FAR = 999;
    // 23 columns and 15 rows apart are FAR 754.
    private static final int BEYOND_ALL_FAR = 1000;
    private static final int MOST_TAPE = 400;
    private static final int FEED_BYTES = 20;
    private static final int LEVELS = 5;
    private static final int SIDES = 4;
    private static final int MEASURES = 5;
    // 16 rows of "row abcdef 15: ", twelve runs of five signs, eleven ", " and ";" are 1568 bytes.
    private static final int MOST_WRITTEN = 1600;

    private static final int KEPT = 0;
    private static final int WALK = 1;
    private static final int WRAP = 2;

    private final Plan now;
    private final Plan spare;
    private final Tape tape;
    private int faultAt;
    private final Script script;
    private final Parts parts;
    private final Path path;

    public DotSpreader() {
        now = new Plan();
        spare = new Plan();
        tape = new Tape();
        faultAt = NONE;
        script = new Script();
        parts = new Parts();
        path = new Path();
    }

    // ---- the text ----

    public int feed(int a, int b, int c, int d, int e) {
        if (tape.length + FEED_BYTES > MOST_TAPE) {
            return NONE;
        }
        tape.takeBytes(a);
        tape.takeBytes(b);
        tape.takeBytes(c);
        tape.takeBytes(d);
        tape.takeBytes(e);
        return tape.length;
    }

    public boolean end(int n) {
        if (n < 0 || n > tape.length) {
            return false;
        }
        tape.length = n;
        return true;
    }

    public int read() throws IllegalArgumentException {
        faultAt = tape.useUp();
        if (faultAt != NONE) {
            throw new IllegalArgumentException("the text is wrong");
        }
        now.chart.copyFrom(tape.draft);
        now.mapChanged();
        path.forget();
        return now.chart.zones;
    }

    public int fault() {
        return faultAt;
    }

    // ---- the map ----

    public int cell(int cell, int what) throws IndexOutOfBoundsException, NoSuchElementException {
        needCell(cell);
        switch (what) {
            case 0:
                return now.chart.owner[cell];
            case 1:
                return now.chart.sea[cell] ? 1 : 0;
            default:
                throw new NoSuchElementException("no such what of a cell");
        }
    }

    public int zone(int zone, int what) throws IndexOutOfBoundsException, NoSuchElementException {
        needZone(zone);
        switch (what) {
            case 0:
                return now.chart.cellsOf(zone);
            case 1:
                return now.chart.landOf(zone);
            case 2:
                parts.find(now.chart, zone);
                return parts.found;
            case 3:
                return now.chart.shoreOf(zone);
            case 4:
                return now.chart.borderOf(zone);
            case 5:
                return now.chart.allRunsOf(zone);
            default:
                throw new NoSuchElementException("no such what of a zone");
        }
    }

    public int name(int zone, int k) throws IndexOutOfBoundsException {
        needZone(zone);
        return k >= 0 && k < now.chart.nameLengths[zone] ? now.chart.letters[zone * MOST_LETTERS + k] : NONE;
    }

    public int people(int zone, int group, int n) throws IndexOutOfBoundsException, IllegalArgumentException {
        needZone(zone);
        needGroup(group);
        if (n < 0 || n > MOST_PEOPLE) {
            throw new IllegalArgumentException("no such number of people");
        }
        int before = now.chart.livingIn(zone, group);
        now.chart.settle(zone, group, n);
        numbersChanged();
        return before;
    }

    public int lives(int zone, int group) throws IndexOutOfBoundsException {
        needZone(zone);
        needGroup(group);
        return now.chart.livingIn(zone, group);
    }

    public boolean flood(int cell, boolean sea) throws IndexOutOfBoundsException {
        needCell(cell);
        if (now.chart.sea[cell] == sea) {
            return false;
        }
        now.chart.sea[cell] = sea;
        landChanged(now.chart.owner[cell]);
        return true;
    }

    public int unit(int n) throws IllegalArgumentException {
        if (n < 1 || n > MOST_UNIT) {
            throw new IllegalArgumentException("no such unit");
        }
        int before = now.unit;
        now.unit = n;
        numbersChanged();
        return before;
    }

    public int factor(int n) throws IllegalArgumentException {
        if (n < LEAST_FACTOR || n > MOST_FACTOR) {
            throw new IllegalArgumentException("no such factor");
        }
        int before = now.factor;
        now.factor = n;
        numbersChanged();
        return before;
    }

    // ---- the order and the dots ----

    public int order(int zone, int k) throws IndexOutOfBoundsException {
        needZone(zone);
        return k >= 0 && k < now.tallied().land[zone] ? now.ranked().cellAt(zone, k) : NONE;
    }

    public int stands(int cell) throws IndexOutOfBoundsException {
        needCell(cell);
        return now.ranked().rankOf[cell];
    }

    public int dots(int zone, int group, int level) throws IndexOutOfBoundsException {
        needZone(zone);
        needGroup(group);
        needLevel(level);
        return now.tallied().dotsOf(zone, group, level);
    }

    public int carried(int zone, int group, int level) throws IndexOutOfBoundsException {
        needZone(zone);
        needGroup(group);
        needLevel(level);
        return now.tallied().broughtTo(zone, group, level);
    }

    public int left(int group, int level) throws IndexOutOfBoundsException {
        needGroup(group);
        needLevel(level);
        return now.tallied().restOf(group, level);
    }

    public int all(int group, int level) throws IndexOutOfBoundsException {
        needGroupOrNone(group);
        needLevel(level);
        return group == NONE ? now.tallied().sumOfLevel(level) : now.tallied().sumOfGroup(group, level);
    }

    public int dot(int zone, int group, int level, int k) throws IndexOutOfBoundsException, NoSuchElementException {
        needZone(zone);
        needGroup(group);
        needLevel(level);
        int land = now.tallied().land[zone];
        if (k < 0 || k >= now.tallied().dotsOf(zone, group, level) || land < 1) {
            throw new NoSuchElementException("no such dot");
        }
        return now.ranked().cellAt(zone, (k * now.chart.groups + group) % land);
    }

    public int crowd(int cell, int group, int level) throws IndexOutOfBoundsException {
        needCell(cell);
        needGroupOrNone(group);
        needLevel(level);
        return now.crowded(level).weightOf(cell, group);
    }

    public int apart(int level) throws IndexOutOfBoundsException {
        needLevel(level);
        return now.crowded(level).leastGap(now.chart);
    }

    public int off(int zone, int group) throws IndexOutOfBoundsException {
        needZone(zone);
        needGroup(group);
        return now.tallied().dotsOf(zone, group, 0) * now.unit - now.chart.livingIn(zone, group);
    }

    // ---- edges and runs ----

    public int move(int zone, int other, int row, int from, int to)
            throws IndexOutOfBoundsException, IllegalArgumentException {
        needZone(zone);
        needZone(other);
        needRow(row);
        needEdge(zone, other, from, to);
        int moved = now.chart.shift(zone, other, row, from, to);
        landChanged(zone);
        landChanged(other);
        return moved;
    }

    public int tries(int zone, int other, int row, int from, int to, int level)
            throws IndexOutOfBoundsException, IllegalArgumentException {
        needZone(zone);
        needZone(other);
        needRow(row);
        needLevel(level);
        needEdge(zone, other, from, to);
        now.ranked();
        spare.copyFrom(now);
        spare.chart.shift(zone, other, row, from, to);
        spare.landChanged(zone);
        spare.landChanged(other);
        return spare.crowded(level).moreThan(now.crowded(level), now.chart);
    }

    public int run(int zone, int row, int k, boolean last) throws IndexOutOfBoundsException {
        needZone(zone);
        needRow(row);
        return k == NONE ? now.chart.runsOf(zone, row) : now.chart.runEdge(zone, row, k, last);
    }

    public int part(int cell) throws IndexOutOfBoundsException {
        needCell(cell);
        if (!now.chart.isLand(cell)) {
            return NONE;
        }
        parts.find(now.chart, now.chart.owner[cell]);
        return parts.partOf[cell];
    }

    // ---- measures ----

    public int measure(int cell, int measure, int level, int n)
            throws IndexOutOfBoundsException, NoSuchElementException, IllegalArgumentException {
        needCell(cell);
        needLevel(level);
        needMeasure(measure);
        needFar(n);
        return now.crowded(level).gauge(now.chart, cell, measure, n);
    }

    public int best(int measure, int level, int n)
            throws IndexOutOfBoundsException, NoSuchElementException, IllegalArgumentException {
        needLevel(level);
        needMeasure(measure);
        needFar(n);
        return now.crowded(level).topCell(now.chart, measure, n);
    }

    public int nearest(int cell, int level) throws IndexOutOfBoundsException {
        needCell(cell);
        needLevel(level);
        return now.crowded(level).nextSpot(now.chart, cell);
    }

    public int served(int cell, int level) throws IndexOutOfBoundsException {
        needCell(cell);
        needLevel(level);
        return now.crowded(level).clientsOf(now.chart, cell);
    }

    // ---- paths through the cells with dots ----

    public int thinned(int level, int n, int k) throws IndexOutOfBoundsException, IllegalArgumentException {
        needLevel(level);
        needFar(n);
        bringPath(KEPT, level, n);
        return countOrStop(k);
    }

    public int tour(int level, int k) throws IndexOutOfBoundsException {
        needLevel(level);
        bringPath(WALK, level, 0);
        return countOrStop(k);
    }

    public int way(int level) throws IndexOutOfBoundsException {
        needLevel(level);
        bringPath(WALK, level, 0);
        return path.walked;
    }

    public int hull(int level, int k) throws IndexOutOfBoundsException {
        needLevel(level);
        bringPath(WRAP, level, 0);
        return countOrStop(k);
    }

    public int area(int level) throws IndexOutOfBoundsException {
        needLevel(level);
        bringPath(WRAP, level, 0);
        return path.doubleArea(now.chart);
    }

    public int middle(int group, int level) throws IndexOutOfBoundsException {
        needGroupOrNone(group);
        needLevel(level);
        return now.crowded(level).centralCell(now.chart, group);
    }

    public int line(boolean column, int at, int level) throws IndexOutOfBoundsException {
        if (at < 0 || at >= (column ? now.chart.width : now.chart.height)) {
            throw new IndexOutOfBoundsException("no such row or column");
        }
        needLevel(level);
        return column ? now.crowded(level).sumOfColumn(now.chart, at) : now.crowded(level).sumOfRow(now.chart, at);
    }

    // ---- what would be, and what would do ----

    public int joined(int zone, int other, int level) throws IndexOutOfBoundsException, IllegalArgumentException {
        needZone(zone);
        needZone(other);
        needLevel(level);
        needTwo(zone, other);
        spare.copyFrom(now);
        spare.chart.join(zone, other);
        spare.landChanged(zone);
        spare.landChanged(other);
        return spare.tallied().sumOfZone(zone, level);
    }

    public int fits(int n) {
        Tally tally = now.tallied();
        if (tally.sumWithUnit(now.chart, MOST_UNIT) > n) {
            return NONE;
        }
        int low = 1;
        int high = MOST_UNIT;
        for (int halvings = 0; low < high && halvings < MOST_UNIT; halvings++) {
            int middle = (low + high) / 2;
            if (tally.sumWithUnit(now.chart, middle) > n) {
                low = middle + 1;
            } else {
                high = middle;
            }
        }
        return low;
    }

    public int scale(int n) {
        for (int level = 0; level < LEVELS; level++) {
            if (now.tallied().sumOfLevel(level) <= n) {
                return level;
            }
        }
        return NONE;
    }

    // ---- what is written, and what there is ----

    public int write(int zone) throws IndexOutOfBoundsException {
        needZone(zone);
        script.writeZone(now.chart, zone);
        return script.length;
    }

    public int octet(int k) {
        return k >= 0 && k < script.length ? script.bytes[k] : NONE;
    }

    public int count(int what) {
        switch (what) {
            case 0:
                return now.chart.width;
            case 1:
                return now.chart.height;
            case 2:
                return now.chart.zones;
            case 3:
                return now.chart.groups;
            case 4:
                return now.chart.seaCells();
            case 5:
                return now.chart.landCells();
            case 6:
                return now.chart.freeCells();
            case 7:
                return now.unit;
            case 8:
                return now.factor;
            case 9:
                return script.length;
            case 10:
                return now.chart.everybody();
            default:
                return NONE;
        }
    }

    // ---- what a call needs ----

    private void needCell(int cell) {
        if (cell < 0 || cell >= now.chart.cells()) {
            throw new IndexOutOfBoundsException("no such cell");
        }
    }

    private void needZone(int zone) {
        if (zone < 0 || zone >= now.chart.zones) {
            throw new IndexOutOfBoundsException("no such zone");
        }
    }

    private void needGroup(int group) {
        if (group < 0 || group >= now.chart.groups) {
            throw new IndexOutOfBoundsException("no such group");
        }
    }

    private void needGroupOrNone(int group) {
        if (group != NONE) {
            needGroup(group);
        }
    }

    private void needLevel(int level) {
        if (level < 0 || level >= LEVELS) {
            throw new IndexOutOfBoundsException("no such level");
        }
    }

    private void needRow(int row) {
        if (row < 0 || row >= now.chart.height) {
            throw new IndexOutOfBoundsException("no such row");
        }
    }

    private void needTwo(int zone, int other) {
        if (zone == other) {
            throw new IllegalArgumentException("both are one zone");
        }
    }

    private void needEdge(int zone, int other, int from, int to) {
        needTwo(zone, other);
        if (from < 0 || from > to || to >= now.chart.width) {
            throw new IllegalArgumentException("no such run");
        }
    }

    private void needMeasure(int measure) {
        if (measure < 0 || measure >= MEASURES) {
            throw new NoSuchElementException("no such measure");
        }
    }

    private void needFar(int n) {
        if (n < 0 || n > MOST_FAR) {
            throw new IllegalArgumentException("not 0 to 999");
        }
    }

    // ---- what changes, and what is brought up to date ----

    private void numbersChanged() {
        now.numbersChanged();
        path.forget();
    }

    private void landChanged(int zone) {
        now.landChanged(zone);
        path.forget();
    }

    private void bringPath(int kind, int level, int n) {
        if (!path.isOf(kind, level, n)) {
            path.follow(now.chart, now.crowded(level), kind, n);
            path.keepAs(kind, level, n);
        }
    }

    private int countOrStop(int k) {
        return k == NONE ? path.stops : path.stopAt(k);
    }

    /** THE MAP: its cells, zones and people, and what can be told of them without dots. */
    private static final class Chart {
        int width = 0;
        int height = 0;
        int zones = 0;
        int groups = 1;
        final int[] owner = new int[MOST_CELLS];
        final boolean[] sea = new boolean[MOST_CELLS];
        final int[] columnOf = new int[MOST_CELLS];
        final int[] rowOf = new int[MOST_CELLS];
        final int[] living = new int[MOST_ZONES * MOST_GROUPS];
        final byte[] letters = new byte[MOST_ZONES * MOST_LETTERS];
        final int[] nameLengths = new int[MOST_ZONES];

        int cells() {
            return width * height;
        }

        void clear() {
            width = 0;
            height = 0;
            zones = 0;
            groups = 1;
        }

        void shape(int newWidth, int newHeight) {
            width = newWidth;
            height = newHeight;
            for (int row = 0; row < height; row++) {
                for (int column = 0; column < width; column++) {
                    int cell = row * width + column;
                    owner[cell] = NONE;
                    sea[cell] = false;
                    columnOf[cell] = column;
                    rowOf[cell] = row;
                }
            }
        }

        void copyFrom(Chart other) {
            width = other.width;
            height = other.height;
            zones = other.zones;
            groups = other.groups;
            System.arraycopy(other.owner, 0, owner, 0, MOST_CELLS);
            System.arraycopy(other.columnOf, 0, columnOf, 0, MOST_CELLS);
            System.arraycopy(other.rowOf, 0, rowOf, 0, MOST_CELLS);
            System.arraycopy(other.living, 0, living, 0, MOST_ZONES * MOST_GROUPS);
            System.arraycopy(other.letters, 0, letters, 0, MOST_ZONES * MOST_LETTERS);
            System.arraycopy(other.nameLengths, 0, nameLengths, 0, MOST_ZONES);
            for (int cell = 0; cell < MOST_CELLS; cell++) {
                sea[cell] = other.sea[cell];
            }
        }

        int far(int one, int two) {
            int across = columnOf[one] - columnOf[two];
            int down = rowOf[one] - rowOf[two];
            return across * across + down * down;
        }

        int beside(int cell, int side) {
            int column = columnOf[cell];
            int row = rowOf[cell];
            switch (side) {
                case 0:
                    return row > 0 ? cell - width : NONE;
                case 1:
                    return column > 0 ? cell - 1 : NONE;
                case 2:
                    return column < width - 1 ? cell + 1 : NONE;
                default:
                    return row < height - 1 ? cell + width : NONE;
            }
        }

        boolean isLand(int cell) {
            return owner[cell] != NONE && !sea[cell];
        }

        boolean isLandOf(int cell, int zone) {
            return owner[cell] == zone && !sea[cell];
        }

        int livingIn(int zone, int group) {
            return living[zone * MOST_GROUPS + group];
        }

        void settle(int zone, int group, int n) {
            living[zone * MOST_GROUPS + group] = n < MOST_PEOPLE ? n : MOST_PEOPLE;
        }

        int cellsOf(int zone) {
            int found = 0;
            for (int cell = 0; cell < cells(); cell++) {
                found += owner[cell] == zone ? 1 : 0;
            }
            return found;
        }

        int landOf(int zone) {
            int found = 0;
            for (int cell = 0; cell < cells(); cell++) {
                found += isLandOf(cell, zone) ? 1 : 0;
            }
            return found;
        }

        int shoreOf(int zone) {
            int sides = 0;
            for (int cell = 0; cell < cells(); cell++) {
                for (int side = 0; side < SIDES && isLandOf(cell, zone); side++) {
                    int next = beside(cell, side);
                    sides += next != NONE && sea[next] ? 1 : 0;
                }
            }
            return sides;
        }

        int borderOf(int zone) {
            int sides = 0;
            for (int cell = 0; cell < cells(); cell++) {
                for (int side = 0; side < SIDES && isLandOf(cell, zone); side++) {
                    int next = beside(cell, side);
                    sides += next != NONE && isLand(next) && owner[next] != zone ? 1 : 0;
                }
            }
            return sides;
        }

        private boolean startsRun(int zone, int row, int column) {
            int cell = row * width + column;
            return isLandOf(cell, zone) && (column == 0 || !isLandOf(cell - 1, zone));
        }

        int runsOf(int zone, int row) {
            int found = 0;
            for (int column = 0; column < width; column++) {
                found += startsRun(zone, row, column) ? 1 : 0;
            }
            return found;
        }

        int allRunsOf(int zone) {
            int found = 0;
            for (int row = 0; row < height; row++) {
                found += runsOf(zone, row);
            }
            return found;
        }

        int runEdge(int zone, int row, int k, boolean last) {
            int before = 0;
            for (int column = 0; column < width; column++) {
                if (startsRun(zone, row, column)) {
                    if (before == k) {
                        return last ? runEnd(zone, row, column) : column;
                    }
                    before++;
                }
            }
            return NONE;
        }

        private int runEnd(int zone, int row, int first) {
            int column = first;
            while (column < width - 1 && isLandOf(row * width + column + 1, zone)) {
                column++;
            }
            return column;
        }

        int seaCells() {
            int found = 0;
            for (int cell = 0; cell < cells(); cell++) {
                found += sea[cell] ? 1 : 0;
            }
            return found;
        }

        int landCells() {
            int found = 0;
            for (int cell = 0; cell < cells(); cell++) {
                found += isLand(cell) ? 1 : 0;
            }
            return found;
        }

        int freeCells() {
            return cells() - seaCells() - landCells();
        }

        int everybody() {
            int sum = 0;
            for (int zone = 0; zone < zones; zone++) {
                for (int group = 0; group < groups; group++) {
                    sum += livingIn(zone, group);
                }
            }
            return sum;
        }

        int shift(int zone, int other, int row, int from, int to) {
            int landBefore = landOf(zone);
            int moved = 0;
            int landLess = 0;
            for (int column = from; column <= to; column++) {
                int cell = row * width + column;
                if (owner[cell] == zone) {
                    owner[cell] = other;
                    moved++;
                    landLess += sea[cell] ? 0 : 1;
                }
            }
            if (landBefore > 0) {
                for (int group = 0; group < groups; group++) {
                    int going = livingIn(zone, group) * landLess / landBefore;
                    settle(zone, group, livingIn(zone, group) - going);
                    settle(other, group, livingIn(other, group) + going);
                }
            }
            return moved;
        }

        void join(int zone, int other) {
            for (int cell = 0; cell < cells(); cell++) {
                if (owner[cell] == other) {
                    owner[cell] = zone;
                }
            }
            for (int group = 0; group < groups; group++) {
                settle(zone, group, livingIn(zone, group) + livingIn(other, group));
                settle(other, group, 0);
            }
        }
    }

    /** The text that has come, read into a draft, so that a wrong one leaves the map as it was. */
    private static final class Tape {
        int length = 0;
        final Chart draft = new Chart();
        private final byte[] text = new byte[MOST_TAPE];
        private int at = 0;
        private int wordStart = 0;
        private int wordLength = 0;
        private int numberStart = 0;
        private int number = 0;
        private int failed = NONE;
        private boolean groupsTold = false;

        void takeBytes(int four) {
            for (int shift = 24; shift >= 0; shift -= 8) {
                if (length < MOST_TAPE) {
                    text[length] = (byte) (four >> shift);
                    length++;
                }
            }
        }

        /** THE FAULT, or NONE. */
        int useUp() {
            at = 0;
            failed = NONE;
            groupsTold = false;
            draft.clear();
            boolean going = readSize();
            skipBlanks();
            for (int lines = 0; going && at < length && lines < MOST_TAPE; lines++) {
                going = readLine();
                skipBlanks();
            }
            length = 0;
            return failed;
        }

        private boolean readSize() {
            if (!readKeyword("size") || !readNumber(2, MOST_WIDTH)) {
                return false;
            }
            int width = number;
            if (!readNumber(2, MOST_HEIGHT)) {
                return false;
            }
            draft.shape(width, number);
            return readSign(';');
        }

        private boolean readLine() {
            if (!readWord()) {
                return false;
            }
            if (wordIs("groups")) {
                return readGroups();
            }
            if (wordIs("zone")) {
                return readZone();
            }
            if (wordIs("row")) {
                return readToldName() && readRuns(zoneNamed());
            }
            if (wordIs("sea")) {
                return readRuns(NONE);
            }
            return failAt(wordStart);
        }

        private boolean readGroups() {
            if (groupsTold || draft.zones > 0) {
                return failAt(wordStart);
            }
            if (!readNumber(1, MOST_GROUPS)) {
                return false;
            }
            groupsTold = true;
            draft.groups = number;
            return readSign(';');
        }

        private boolean readZone() {
            if (draft.zones >= MOST_ZONES) {
                return failAt(wordStart);
            }
            if (!readWord()) {
                return false;
            }
            if (wordLength > MOST_LETTERS || isReserved() || zoneNamed() != NONE) {
                return failAt(wordStart);
            }
            int zone = draft.zones;
            System.arraycopy(text, wordStart, draft.letters, zone * MOST_LETTERS, wordLength);
            draft.nameLengths[zone] = wordLength;
            if (!readKeyword("people") || !readPeople(zone) || !readSign(';')) {
                return false;
            }
            draft.zones++;
            return true;
        }

        private boolean readPeople(int zone) {
            for (int group = 0; group < draft.groups; group++) {
                if (group > 0 && !readSign(',')) {
                    return false;
                }
                if (!readNumber(0, MOST_PEOPLE)) {
                    return false;
                }
                draft.settle(zone, group, number);
            }
            return true;
        }

        private boolean readToldName() {
            if (!readWord()) {
                return false;
            }
            return zoneNamed() != NONE || failAt(wordStart);
        }

        // The sea has runs as zones have them: it stands as zone NONE here.
        private boolean readRuns(int zone) {
            if (!readNumber(0, draft.height - 1)) {
                return false;
            }
            int row = number;
            if (!readSign(':') || !readRun(zone, row)) {
                return false;
            }
            for (int runs = 1; runs < MOST_TAPE && nextIs(','); runs++) {
                at++;
                if (!readRun(zone, row)) {
                    return false;
                }
            }
            return readSign(';');
        }

        private boolean readRun(int zone, int row) {
            if (!readNumber(0, draft.width - 1)) {
                return false;
            }
            int first = number;
            int start = numberStart;
            int rowStart = row * draft.width;
            // Its first cell is wrong whatever comes behind it; the others only when the run's end is known.
            if (isOfAnother(rowStart + first, zone)) {
                return failAt(start);
            }
            if (!readSign('-') || !readNumber(first, draft.width - 1)) {
                return false;
            }
            int last = number;
            for (int column = first; column <= last; column++) {
                if (isOfAnother(rowStart + column, zone)) {
                    return failAt(start);
                }
            }
            mark(zone, rowStart + first, rowStart + last);
            return true;
        }

        private boolean isOfAnother(int cell, int zone) {
            return zone != NONE && draft.owner[cell] != NONE && draft.owner[cell] != zone;
        }

        private void mark(int zone, int first, int last) {
            for (int cell = first; cell <= last; cell++) {
                if (zone == NONE) {
                    draft.sea[cell] = true;
                } else {
                    draft.owner[cell] = zone;
                }
            }
        }

        private boolean isReserved() {
            return wordIs("size") || wordIs("groups") || wordIs("zone")
                    || wordIs("people") || wordIs("row") || wordIs("sea");
        }

        private int zoneNamed() {
            for (int zone = 0; zone < draft.zones; zone++) {
                if (wordIsNameOf(zone)) {
                    return zone;
                }
            }
            return NONE;
        }

        private boolean wordIsNameOf(int zone) {
            if (draft.nameLengths[zone] != wordLength) {
                return false;
            }
            for (int k = 0; k < wordLength; k++) {
                if (draft.letters[zone * MOST_LETTERS + k] != text[wordStart + k]) {
                    return false;
                }
            }
            return true;
        }

        private boolean wordIs(String word) {
            if (word.length() != wordLength) {
                return false;
            }
            for (int k = 0; k < wordLength; k++) {
                if (word.charAt(k) != text[wordStart + k]) {
                    return false;
                }
            }
            return true;
        }

        private boolean readKeyword(String word) {
            if (!readWord()) {
                return false;
            }
            return wordIs(word) || failAt(wordStart);
        }

        private boolean readWord() {
            skipBlanks();
            wordStart = at;
            while (at < length && text[at] >= 'a' && text[at] <= 'z') {
                at++;
            }
            wordLength = at - wordStart;
            return wordLength > 0 || failAt(at);
        }

        private boolean readNumber(int least, int most) {
            skipBlanks();
            numberStart = at;
            number = 0;
            while (at < length && text[at] >= '0' && text[at] <= '9') {
                // Digits beyond the fifth are a fault already: leaving them out keeps the number small.
                if (at - numberStart < MOST_DIGITS) {
                    number = number * 10 + text[at] - '0';
                }
                at++;
            }
            int digits = at - numberStart;
            boolean fine = digits > 0 && digits <= MOST_DIGITS && number >= least && number <= most;
            return fine || failAt(numberStart);
        }

        private boolean readSign(char sign) {
            if (!nextIs(sign)) {
                return failAt(at);
            }
            at++;
            return true;
        }

        private boolean nextIs(char sign) {
            skipBlanks();
            return at < length && text[at] == sign;
        }

        private void skipBlanks() {
            while (at < length && (text[at] == 9 || text[at] == 10 || text[at] == 32)) {
                at++;
            }
        }

        private boolean failAt(int position) {
            failed = position;
            return false;
        }
    }

    /** How many dots each zone has, by groups and levels, and what is carried between zones. */
    private static final class Tally {
        boolean fresh = false;
        final int[] land = new int[MOST_ZONES];
        private int zones = 0;
        private int groups = 1;
        private final int[] dotted = new int[LEVELS * MOST_GROUPS * MOST_ZONES];
        private final int[] brought = new int[LEVELS * MOST_GROUPS * MOST_ZONES];
        private final int[] rest = new int[LEVELS * MOST_GROUPS];

        void reckon(Chart chart, int unit, int factor) {
            zones = chart.zones;
            groups = chart.groups;
            countLand(chart);
            for (int group = 0; group < groups; group++) {
                for (int level = 0; level < LEVELS; level++) {
                    share(chart, group, level, level == 0 ? unit : factor);
                }
            }
            fresh = true;
        }

        private void countLand(Chart chart) {
            Arrays.fill(land, 0);
            for (int cell = 0; cell < chart.cells(); cell++) {
                if (chart.isLand(cell)) {
                    land[chart.owner[cell]]++;
                }
            }
        }

        private void share(Chart chart, int group, int level, int size) {
            if (size < 1) {
                return;
            }
            int carry = 0;
            for (int zone = 0; zone < zones; zone++) {
                int place = placeOf(zone, group, level);
                brought[place] = carry;
                carry += level == 0 ? chart.livingIn(zone, group) : dotsOf(zone, group, level - 1);
                dotted[place] = land[zone] > 0 ? carry / size : 0;
                carry -= dotted[place] * size;
            }
            rest[level * MOST_GROUPS + group] = carry;
        }

        private static int placeOf(int zone, int group, int level) {
            return (level * MOST_GROUPS + group) * MOST_ZONES + zone;
        }

        int dotsOf(int zone, int group, int level) {
            return dotted[placeOf(zone, group, level)];
        }

        int broughtTo(int zone, int group, int level) {
            return brought[placeOf(zone, group, level)];
        }

        int restOf(int group, int level) {
            return rest[level * MOST_GROUPS + group];
        }

        int sumOfGroup(int group, int level) {
            int sum = 0;
            for (int zone = 0; zone < zones; zone++) {
                sum += dotsOf(zone, group, level);
            }
            return sum;
        }

        int sumOfLevel(int level) {
            int sum = 0;
            for (int group = 0; group < groups; group++) {
                sum += sumOfGroup(group, level);
            }
            return sum;
        }

        int sumOfZone(int zone, int level) {
            int sum = 0;
            for (int group = 0; group < groups; group++) {
                sum += dotsOf(zone, group, level);
            }
            return sum;
        }

        int sumWithUnit(Chart chart, int unit) {
            int sum = 0;
            for (int group = 0; group < groups && unit > 0; group++) {
                int carry = 0;
                for (int zone = 0; zone < zones; zone++) {
                    carry += chart.livingIn(zone, group);
                    if (land[zone] > 0) {
                        sum += carry / unit;
                        carry %= unit;
                    }
                }
            }
            return sum;
        }
    }

    /** Sums up where weights are, so that FAR of all of them from a cell needs no walk over them. */
    private static final class Balance {
        private long weights = 0;
        private long columns = 0;
        private long rows = 0;

        void clear() {
            weights = 0;
            columns = 0;
            rows = 0;
        }

        void add(Chart chart, int cell, int weight) {
            weights += weight;
            columns += (long) weight * chart.columnOf[cell];
            rows += (long) weight * chart.rowOf[cell];
        }

        boolean isEmpty() {
            return weights == 0;
        }

        /** FAR of all weights together, less what is the same from every cell. */
        long pullFrom(Chart chart, int cell) {
            long column = chart.columnOf[cell];
            long row = chart.rowOf[cell];
            return weights * (column * column + row * row) - 2 * column * columns - 2 * row * rows;
        }
    }

    /** THE ORDER of each zone. */
    private static final class Ranks {
        final int[] rankOf = new int[MOST_CELLS];
        private final int[] sorted = new int[MOST_CELLS];
        private final int[] starts = new int[MOST_ZONES];
        private final boolean[] ranked = new boolean[MOST_ZONES];
        private boolean sortedToo = false;
        private final int[] waiting = new int[MOST_CELLS];
        private final int[] gaps = new int[MOST_CELLS];
        private int waitingCount = 0;
        private final Balance balance = new Balance();

        int cellAt(int zone, int rank) {
            int place = starts[zone] + rank;
            return place >= 0 && place < MOST_CELLS ? sorted[place] : NONE;
        }

        void forget(int zone) {
            ranked[zone] = false;
            sortedToo = false;
        }

        void forgetAll() {
            for (int zone = 0; zone < MOST_ZONES; zone++) {
                forget(zone);
            }
        }

        void copyFrom(Ranks other) {
            System.arraycopy(other.rankOf, 0, rankOf, 0, MOST_CELLS);
            for (int zone = 0; zone < MOST_ZONES; zone++) {
                ranked[zone] = other.ranked[zone];
            }
            sortedToo = false;
        }

        void renew(Chart chart, int[] land) {
            if (sortedToo) {
                return;
            }
            for (int zone = 0; zone < chart.zones; zone++) {
                if (!ranked[zone]) {
                    rank(chart, zone);
                    ranked[zone] = true;
                }
            }
            sort(chart, land);
            sortedToo = true;
        }

        private void rank(Chart chart, int zone) {
            gather(chart, zone);
            int chosen = firstOf(chart);
            int rank = 0;
            while (chosen != NONE && rank < MOST_CELLS) {
                rankOf[chosen] = rank;
                rank++;
                chosen = nextAfter(chart, chosen);
            }
        }

        private void gather(Chart chart, int zone) {
            waitingCount = 0;
            balance.clear();
            for (int cell = 0; cell < chart.cells(); cell++) {
                if (chart.isLandOf(cell, zone)) {
                    waiting[waitingCount] = cell;
                    waitingCount++;
                    gaps[cell] = BEYOND_ALL_FAR;
                    balance.add(chart, cell, 1);
                }
            }
        }

        private int firstOf(Chart chart) {
            int chosen = NONE;
            long least = 0;
            for (int k = 0; k < waitingCount; k++) {
                long pull = balance.pullFrom(chart, waiting[k]);
                if (chosen == NONE || pull < least) {
                    chosen = waiting[k];
                    least = pull;
                }
            }
            return chosen;
        }

        // Those that wait stay sorted by number, so the first of several is the least one.
        private int nextAfter(Chart chart, int latest) {
            int chosen = NONE;
            int greatest = NONE;
            int kept = 0;
            for (int k = 0; k < waitingCount; k++) {
                int cell = waiting[k];
                if (cell != latest) {
                    int gap = Math.min(gaps[cell], chart.far(cell, latest));
                    gaps[cell] = gap;
                    waiting[kept] = cell;
                    kept++;
                    if (gap > greatest) {
                        greatest = gap;
                        chosen = cell;
                    }
                }
            }
            waitingCount = kept;
            return chosen;
        }

        private void sort(Chart chart, int[] land) {
            int start = 0;
            for (int zone = 0; zone < chart.zones; zone++) {
                starts[zone] = start;
                start += land[zone];
            }
            for (int cell = 0; cell < chart.cells(); cell++) {
                if (chart.isLand(cell)) {
                    sorted[starts[chart.owner[cell]] + rankOf[cell]] = cell;
                } else {
                    rankOf[cell] = NONE;
                }
            }
        }
    }

    /** How many dots stand on each cell at one level. */
    private static final class Crowd {
        private int level = NONE;
        private int cells = 0;
        private final int[] byGroup = new int[MOST_GROUPS * MOST_CELLS];
        private final int[] together = new int[MOST_CELLS];
        final int[] spots = new int[MOST_CELLS];
        int spotCount = 0;
        private final Balance balance = new Balance();

        void forget() {
            level = NONE;
        }

        boolean isOf(int wanted) {
            return level == wanted;
        }

        void gather(Chart chart, Tally tally, Ranks ranks, int newLevel) {
            level = newLevel;
            cells = chart.cells();
            Arrays.fill(byGroup, 0);
            for (int zone = 0; zone < chart.zones; zone++) {
                for (int group = 0; group < chart.groups; group++) {
                    stand(chart.groups, tally, ranks, zone, group);
                }
            }
            addUp();
        }

        private void stand(int groups, Tally tally, Ranks ranks, int zone, int group) {
            int land = tally.land[zone];
            if (land < 1 || groups < 1) {
                return;
            }
            int dots = tally.dotsOf(zone, group, level);
            // The dots come back to where the first one stands after so many (groups are 1, 2 or 3: 1 or a prime).
            int round = land % groups == 0 ? land / groups : land;
            if (round < 1) {
                return;
            }
            for (int k = 0; k < round && k < dots; k++) {
                int cell = ranks.cellAt(zone, (k * groups + group) % land);
                if (cell != NONE) {
                    byGroup[group * MOST_CELLS + cell] = dots / round + (k < dots % round ? 1 : 0);
                }
            }
        }

        private void addUp() {
            spotCount = 0;
            for (int cell = 0; cell < cells; cell++) {
                int sum = 0;
                for (int group = 0; group < MOST_GROUPS; group++) {
                    sum += byGroup[group * MOST_CELLS + cell];
                }
                together[cell] = sum;
                if (sum > 0) {
                    spots[spotCount] = cell;
                    spotCount++;
                }
            }
        }

        int weightOf(int cell, int group) {
            return group == NONE ? together[cell] : byGroup[group * MOST_CELLS + cell];
        }

        int moreThan(Crowd before, Chart chart) {
            int more = 0;
            for (int group = 0; group < chart.groups; group++) {
                for (int cell = 0; cell < chart.cells(); cell++) {
                    more += Math.max(0, weightOf(cell, group) - before.weightOf(cell, group));
                }
            }
            return more;
        }

        int leastGap(Chart chart) {
            int least = NONE;
            // No two cells are nearer than FAR 1, so the search ends there.
            for (int one = 0; one < spotCount && least != 1; one++) {
                for (int two = one + 1; two < spotCount; two++) {
                    int far = chart.far(spots[one], spots[two]);
                    if (least == NONE || far < least) {
                        least = far;
                    }
                }
            }
            return least;
        }

        int gauge(Chart chart, int cell, int measure, int n) {
            switch (measure) {
                case 0:
                    return together[cell];
                case 1:
                    return sumWithin(chart, cell, n);
                case 2:
                    return spotCount == 0 ? NONE : chart.far(cell, nextSpot(chart, cell));
                case 3:
                    return farToSea(chart, cell);
                default:
                    return spotsInLine(chart, cell);
            }
        }

        private int sumWithin(Chart chart, int cell, int n) {
            int sum = 0;
            for (int k = 0; k < spotCount; k++) {
                if (chart.far(cell, spots[k]) <= n) {
                    sum += together[spots[k]];
                }
            }
            return sum;
        }

        private int farToSea(Chart chart, int cell) {
            int least = NONE;
            for (int other = 0; other < cells; other++) {
                if (chart.sea[other]) {
                    int far = chart.far(cell, other);
                    if (least == NONE || far < least) {
                        least = far;
                    }
                }
            }
            return least;
        }

        private int spotsInLine(Chart chart, int cell) {
            int found = 0;
            for (int k = 0; k < spotCount; k++) {
                int spot = spots[k];
                boolean inLine = chart.rowOf[spot] == chart.rowOf[cell] || chart.columnOf[spot] == chart.columnOf[cell];
                found += inLine ? 1 : 0;
            }
            return found;
        }

        int topCell(Chart chart, int measure, int n) {
            int top = NONE;
            int greatest = 0;
            for (int cell = 0; cell < cells; cell++) {
                if (chart.isLand(cell)) {
                    int value = gauge(chart, cell, measure, n);
                    if (top == NONE || value > greatest) {
                        top = cell;
                        greatest = value;
                    }
                }
            }
            return top;
        }

        int nextSpot(Chart chart, int cell) {
            int next = NONE;
            int least = 0;
            for (int k = 0; k < spotCount; k++) {
                int far = chart.far(cell, spots[k]);
                if (next == NONE || far < least) {
                    next = spots[k];
                    least = far;
                }
            }
            return next;
        }

        int clientsOf(Chart chart, int spot) {
            int clients = 0;
            for (int cell = 0; cell < cells && together[spot] > 0; cell++) {
                if (chart.isLand(cell) && hasNoneNearer(chart, cell, spot)) {
                    clients++;
                }
            }
            return clients;
        }

        private boolean hasNoneNearer(Chart chart, int cell, int spot) {
            int far = chart.far(cell, spot);
            for (int k = 0; k < spotCount; k++) {
                int farOther = chart.far(cell, spots[k]);
                if (farOther < far || farOther == far && spots[k] < spot) {
                    return false;
                }
            }
            return true;
        }

        int centralCell(Chart chart, int group) {
            balance.clear();
            for (int k = 0; k < spotCount; k++) {
                balance.add(chart, spots[k], weightOf(spots[k], group));
            }
            if (balance.isEmpty()) {
                return NONE;
            }
            int central = 0;
            for (int cell = 1; cell < cells; cell++) {
                if (balance.pullFrom(chart, cell) < balance.pullFrom(chart, central)) {
                    central = cell;
                }
            }
            return central;
        }

        int sumOfRow(Chart chart, int row) {
            int sum = 0;
            for (int column = 0; column < chart.width; column++) {
                sum += together[row * chart.width + column];
            }
            return sum;
        }

        int sumOfColumn(Chart chart, int column) {
            int sum = 0;
            for (int row = 0; row < chart.height; row++) {
                sum += together[row * chart.width + column];
            }
            return sum;
        }
    }

    /** A map with its unit and factor, and what follows from them, reckoned when it is asked for. */
    private static final class Plan {
        final Chart chart = new Chart();
        int unit = 100;
        int factor = 5;
        private final Tally tally = new Tally();
        private final Ranks ranks = new Ranks();
        private final Crowd crowd = new Crowd();

        Tally tallied() {
            if (!tally.fresh) {
                tally.reckon(chart, unit, factor);
            }
            return tally;
        }

        Ranks ranked() {
            ranks.renew(chart, tallied().land);
            return ranks;
        }

        Crowd crowded(int level) {
            if (!crowd.isOf(level)) {
                ranks.renew(chart, tallied().land);
                crowd.gather(chart, tally, ranks, level);
            }
            return crowd;
        }

        void numbersChanged() {
            tally.fresh = false;
            crowd.forget();
        }

        void landChanged(int zone) {
            if (zone != NONE) {
                ranks.forget(zone);
                numbersChanged();
            }
        }

        void mapChanged() {
            ranks.forgetAll();
            numbersChanged();
        }

        void copyFrom(Plan other) {
            chart.copyFrom(other.chart);
            unit = other.unit;
            factor = other.factor;
            ranks.copyFrom(other.ranks);
            numbersChanged();
        }
    }

    /** PARTS of one zone. */
    private static final class Parts {
        int found = 0;
        final int[] partOf = new int[MOST_CELLS];
        private final int[] open = new int[MOST_CELLS];
        private int openCount = 0;

        void find(Chart chart, int zone) {
            found = 0;
            Arrays.fill(partOf, NONE);
            for (int cell = 0; cell < chart.cells(); cell++) {
                if (chart.isLandOf(cell, zone) && partOf[cell] == NONE) {
                    fill(chart, zone, cell);
                    found++;
                }
            }
        }

        private void fill(Chart chart, int zone, int start) {
            openCount = 0;
            reach(start);
            // A cell is opened once alone, as it gets its part then.
            for (int closed = 0; openCount > 0 && closed < MOST_CELLS; closed++) {
                openCount--;
                int cell = open[openCount];
                for (int side = 0; side < SIDES; side++) {
                    int next = chart.beside(cell, side);
                    if (next != NONE && chart.isLandOf(next, zone) && partOf[next] == NONE) {
                        reach(next);
                    }
                }
            }
        }

        private void reach(int cell) {
            if (openCount < MOST_CELLS) {
                partOf[cell] = found;
                open[openCount] = cell;
                openCount++;
            }
        }
    }

    /** Some of the cells with dots in an order of their own: those kept, a tour, a hull. */
    private static final class Path {
        int stops = 0;
        int walked = 0;
        // A hull goes down and up again and may hold its cells twice on the way.
        private final int[] cells = new int[2 * MOST_CELLS];
        private final int[] waiting = new int[MOST_CELLS];
        private int waitingCount = 0;
        private int kind = NONE;
        private int level = NONE;
        private int reach = NONE;

        void forget() {
            kind = NONE;
        }

        boolean isOf(int wantedKind, int wantedLevel, int wantedReach) {
            return kind == wantedKind && level == wantedLevel && reach == wantedReach;
        }

        void keepAs(int newKind, int newLevel, int newReach) {
            kind = newKind;
            level = newLevel;
            reach = newReach;
        }

        int stopAt(int k) {
            return k >= 0 && k < stops ? cells[k] : NONE;
        }

        void follow(Chart chart, Crowd crowd, int newKind, int n) {
            stops = 0;
            walked = 0;
            switch (newKind) {
                case KEPT:
                    keep(chart, crowd, n);
                    break;
                case WALK:
                    walk(chart, crowd);
                    break;
                default:
                    wrap(chart, crowd);
                    break;
            }
        }

        private void push(int cell) {
            if (stops < 2 * MOST_CELLS) {
                cells[stops] = cell;
                stops++;
            }
        }

        private void keep(Chart chart, Crowd crowd, int n) {
            for (int k = 0; k < crowd.spotCount; k++) {
                if (isApart(chart, crowd.spots[k], n)) {
                    push(crowd.spots[k]);
                }
            }
        }

        private boolean isApart(Chart chart, int cell, int n) {
            for (int k = 0; k < stops; k++) {
                if (chart.far(cell, cells[k]) < n) {
                    return false;
                }
            }
            return true;
        }

        private void walk(Chart chart, Crowd crowd) {
            System.arraycopy(crowd.spots, 0, waiting, 0, crowd.spotCount);
            waitingCount = crowd.spotCount;
            int here = waitingCount > 0 ? waiting[0] : NONE;
            for (int steps = 0; here != NONE && steps < MOST_CELLS; steps++) {
                push(here);
                int next = nextAfter(chart, here);
                walked += next == NONE ? 0 : chart.far(here, next);
                here = next;
            }
        }

        // Those that wait stay sorted by number, so the first of several is the least one.
        private int nextAfter(Chart chart, int here) {
            int chosen = NONE;
            int least = 0;
            int kept = 0;
            for (int k = 0; k < waitingCount; k++) {
                int cell = waiting[k];
                if (cell != here) {
                    waiting[kept] = cell;
                    kept++;
                    int far = chart.far(cell, here);
                    if (chosen == NONE || far < least) {
                        chosen = cell;
                        least = far;
                    }
                }
            }
            waitingCount = kept;
            return chosen;
        }

        // Down along the right side by growing numbers, then up along the left side.
        private void wrap(Chart chart, Crowd crowd) {
            for (int k = 0; k < crowd.spotCount; k++) {
                turnTo(chart, crowd.spots[k], 1);
            }
            int bottom = stops;
            for (int k = crowd.spotCount - 2; k >= 0; k--) {
                turnTo(chart, crowd.spots[k], bottom);
            }
            // The way up ends where the way down began.
            if (stops > 1) {
                stops--;
            }
        }

        private void turnTo(Chart chart, int cell, int fixed) {
            while (stops > fixed && stops > 1 && turn(chart, cells[stops - 2], cells[stops - 1], cell) <= 0) {
                stops--;
            }
            push(cell);
        }

        /** Above 0 where the way from one by two to three bends as from growing columns to growing rows. */
        private static int turn(Chart chart, int one, int two, int three) {
            int across = chart.columnOf[two] - chart.columnOf[one];
            int down = chart.rowOf[two] - chart.rowOf[one];
            int acrossNext = chart.columnOf[three] - chart.columnOf[two];
            int downNext = chart.rowOf[three] - chart.rowOf[two];
            return across * downNext - down * acrossNext;
        }

        int doubleArea(Chart chart) {
            int sum = 0;
            for (int k = 0; k < stops; k++) {
                int one = cells[k];
                int two = cells[k + 1 < stops ? k + 1 : 0];
                sum += chart.columnOf[one] * chart.rowOf[two] - chart.columnOf[two] * chart.rowOf[one];
            }
            return sum;
        }
    }

    /** What was WRITTEN latest. */
    private static final class Script {
        int length = 0;
        final byte[] bytes = new byte[MOST_WRITTEN];

        void writeZone(Chart chart, int zone) {
            length = 0;
            for (int row = 0; row < chart.height; row++) {
                int runs = chart.runsOf(zone, row);
                if (runs > 0) {
                    putHead(chart, zone, row);
                    putRuns(chart, zone, row, runs);
                }
            }
        }

        private void putHead(Chart chart, int zone, int row) {
            putText("row ");
            for (int k = 0; k < chart.nameLengths[zone]; k++) {
                put(chart.letters[zone * MOST_LETTERS + k]);
            }
            putText(" ");
            putNumber(row);
            putText(": ");
        }

        private void putRuns(Chart chart, int zone, int row, int runs) {
            for (int k = 0; k < runs; k++) {
                putText(k > 0 ? ", " : "");
                putNumber(chart.runEdge(zone, row, k, false));
                putText("-");
                putNumber(chart.runEdge(zone, row, k, true));
            }
            putText(";");
        }

        // Rows and columns have two digits at most.
        private void putNumber(int number) {
            if (number >= 10) {
                put('0' + number / 10);
            }
            put('0' + number % 10);
        }

        private void putText(String text) {
            for (int k = 0; k < text.length(); k++) {
                put(text.charAt(k));
            }
        }

        private void put(int sign) {
            if (length < MOST_WRITTEN) {
                bytes[length] = (byte) sign;
                length++;
            }
        }
    }
}
