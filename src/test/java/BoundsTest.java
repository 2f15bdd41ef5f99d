/**
 * Too small and too large: of each bound that the document names the last number that is one and the first that is none,
 * on both sides. The bounds of texts are in FaultListTest.
 */
public final class BoundsTest {
    private static final int NONE = DotSpreader.NONE;

    // Five cells on each side of an empty row; by unit 1 and factor 2 there are dots on all of them, at every level.
    private static final String WIDE = "size 5 3;groups 2;zone a people 99999,99999;zone b people 99999,99999;"
            + "row a 0:0-4;row b 2:0-4;";
    private static final String CORNERS = "size 24 16;zone a people 100;zone b people 100;row a 0:0-0;row b 15:23-23;";

    public static void main(String[] args) {
        cells();
        cellCalls();
        zones();
        zoneCalls();
        groups();
        groupCalls();
        levelsOfNumbers();
        levelsOfPlaces();
        levelCalls();
        rowsAndColumns();
        edges();
        people();
        units();
        factors();
        farOfMeasures();
        farOfThinned();
        whats();
        letters();
        placesInRows();
        fitsAndScale();
        Check.done("BoundsTest");
    }

    private static DotSpreader wide() {
        DotSpreader x = Check.map(WIDE);
        x.unit(1);
        x.factor(2);
        return x;
    }

    /** The first numbers that are none, behind the last that is one and ahead of the first, and those far away. */
    private static void outside(String what, int first, int last, Check.Indexed call) {
        for (int n : new int[] {first - 1, last + 1, Integer.MIN_VALUE, Integer.MAX_VALUE}) {
            Check.refusesIndex(what + " " + n, () -> call.at(n));
        }
    }

    // ---- CELL ----

    private static void cells() {
        DotSpreader least = Check.map("size 2 2;zone a people 1;row a 1:1-1;");
        Check.is("Term size: 2 by 2 have a cell 3", least.cell(3, 0), 0);
        Check.is("Term size: and a cell 0", least.cell(0, 0), NONE);
        outside("Promise 6: of 2 by 2 no cell", 0, 3, n -> least.cell(n, 0));
        DotSpreader most = Check.map("size 24 16;zone a people 1;row a 15:23-23;");
        Check.is("Term size: 24 by 16 have a cell 383", most.cell(383, 0), 0);
        Check.is("Term size: and a cell 382", most.cell(382, 0), NONE);
        outside("Promise 6: of 24 by 16 no cell", 0, 383, n -> most.cell(n, 0));
        DotSpreader flat = Check.map("size 24 2;zone a people 1;row a 1:0-0;");
        Check.is("Term CELLS: row times WIDTH and column", flat.cell(24, 0), 0);
        outside("Promise 6: of 24 by 2 no cell", 0, 47, n -> flat.cell(n, 0));
        DotSpreader steep = Check.map("size 2 16;zone a people 1;row a 15:0-0;");
        Check.is("Term CELLS: row times WIDTH, not HEIGHT", steep.cell(30, 0), 0);
        outside("Promise 6: of 2 by 16 no cell", 0, 31, n -> steep.cell(n, 0));
    }

    private static void cellCalls() {
        DotSpreader x = wide();
        Check.is("Promise 11: the last cell", x.flood(14, true), true);
        Check.is("Promise 11: the last cell, back", x.flood(14, false), true);
        Check.is("Promise 11: the first cell", x.flood(0, false), false);
        Check.is("Promise 15: the first cell", x.stands(0), 1);
        Check.is("Promise 15: the last cell", x.stands(14), 2);
        Check.is("Promise 21: the first cell", x.crowd(0, NONE, 4), 2500);
        Check.is("Promise 21: the last cell", x.crowd(14, NONE, 4), 2500);
        Check.is("Promise 27: the first cell", x.part(0), 0);
        Check.is("Promise 27: the last cell", x.part(14), 0);
        Check.is("Promise 28: the first cell", x.measure(0, 0, 4, 0), 2500);
        Check.is("Promise 28: the last cell", x.measure(14, 0, 4, 0), 2500);
        Check.is("Promise 30: the first cell", x.nearest(0, 4), 0);
        Check.is("Promise 30: the last cell", x.nearest(14, 4), 14);
        Check.is("Promise 31: the first cell", x.served(0, 4), 1);
        Check.is("Promise 31: the last cell", x.served(14, 4), 1);
        outside("Promise 11: cell", 0, 14, n -> x.flood(n, true) ? 1 : 0);
        outside("Promise 15: cell", 0, 14, x::stands);
        outside("Promise 21: cell", 0, 14, n -> x.crowd(n, NONE, 0));
        outside("Promise 27: cell", 0, 14, x::part);
        outside("Promise 28: cell", 0, 14, n -> x.measure(n, 0, 0, 0));
        outside("Promise 30: cell", 0, 14, n -> x.nearest(n, 0));
        outside("Promise 31: cell", 0, 14, n -> x.served(n, 0));
    }

    // ---- ZONE ----

    private static void zones() {
        DotSpreader one = Check.map("size 2 2;zone a people 7;");
        Check.is("Term ZONES: numbered from 0 on", one.lives(0, 0), 7);
        outside("Promise 10: of one no zone", 0, 0, n -> one.lives(n, 0));
        StringBuilder text = new StringBuilder("size 8 2;");
        for (int zone = 0; zone < 8; zone++) {
            text.append("zone ").append((char) ('s' + zone)).append(" people ").append(zone).append(';');
        }
        DotSpreader eight = Check.map(text.toString());
        Check.is("Term ZONES: at most 8", eight.count(2), 8);
        Check.answers("Term ZONES: as they come, people of", n -> eight.lives(n, 0), 0, 1, 2, 3, 4, 5, 6, 7);
        Check.answers("Promise 8: of eight the name of", n -> eight.name(n, 0), 's', 't', 'u', 'v', 'w', 'x', 'y', 'z');
        outside("Promise 10: of eight no zone", 0, 7, n -> eight.lives(n, 0));
        outside("Promise 8: of eight no zone", 0, 7, n -> eight.name(n, 0));
    }

    private static void zoneCalls() {
        DotSpreader x = wide();
        Check.is("Promise 7: the last zone", x.zone(1, 0), 5);
        Check.is("Promise 9: the last zone", x.people(1, 1, 99999), 99999);
        Check.is("Promise 14: the last zone", x.order(1, 0), 12);
        Check.is("Promise 16: the last zone", x.dots(1, 1, 4), 6250);
        Check.is("Promise 17: the last zone", x.carried(1, 1, 4), 1);
        Check.is("Promise 20: the last zone", x.dot(1, 1, 4, 0), 10);
        Check.is("Promise 23: the last zone", x.off(1, 1), 0);
        Check.is("Promise 26: the last zone", x.run(1, 2, 0, true), 4);
        Check.is("Promise 42: the last zone, row b 2: 0-4;", x.write(1), 13);
        outside("Promise 7: zone", 0, 1, n -> x.zone(n, 0));
        outside("Promise 9: zone", 0, 1, n -> x.people(n, 0, 1));
        outside("Promise 14: zone", 0, 1, n -> x.order(n, 0));
        outside("Promise 16: zone", 0, 1, n -> x.dots(n, 0, 0));
        outside("Promise 17: zone", 0, 1, n -> x.carried(n, 0, 0));
        outside("Promise 20: zone", 0, 1, n -> x.dot(n, 0, 0, 0));
        outside("Promise 23: zone", 0, 1, n -> x.off(n, 0));
        outside("Promise 24: first zone", 0, 1, n -> x.move(n, 0, 0, 0, 0));
        outside("Promise 24: second zone", 0, 1, n -> x.move(1, n, 0, 0, 0));
        outside("Promise 25: first zone", 0, 1, n -> x.tries(n, 0, 0, 0, 0, 0));
        outside("Promise 25: second zone", 0, 1, n -> x.tries(1, n, 0, 0, 0, 0));
        outside("Promise 26: zone", 0, 1, n -> x.run(n, 0, 0, true));
        outside("Promise 39: first zone", 0, 1, n -> x.joined(n, 0, 0));
        outside("Promise 39: second zone", 0, 1, n -> x.joined(1, n, 0));
        outside("Promise 42: zone", 0, 1, x::write);
    }

    // ---- GROUP ----

    private static void groups() {
        DotSpreader none = Check.map("size 2 2;zone a people 5;");
        Check.is("Term groups: 1 without", none.count(3), 1);
        DotSpreader one = Check.map("size 2 2;groups 1;zone a people 5;");
        Check.is("Term groups: 1", one.count(3), 1);
        Check.is("Promise 10: group 0 of 1", one.lives(0, 0), 5);
        outside("Promise 10: of 1 no group", 0, 0, n -> one.lives(0, n));
        outside("Promise 18: of 1 no group", 0, 0, n -> one.left(n, 0));
        DotSpreader three = Check.map("size 2 2;groups 3;zone a people 5,6,7;");
        Check.is("Term groups: 3", three.count(3), 3);
        Check.answers("Promise 10: group", n -> three.lives(0, n), 5, 6, 7);
        Check.answers("Promise 18: group", n -> three.left(n, 0), 5, 6, 7);
        outside("Promise 10: of 3 no group", 0, 2, n -> three.lives(0, n));
        outside("Promise 18: of 3 no group", 0, 2, n -> three.left(n, 0));
    }

    private static void groupCalls() {
        DotSpreader x = wide();
        Check.is("Promise 19: NONE, all groups", x.all(NONE, 4), 24998);
        Check.is("Promise 19: the last group", x.all(1, 4), 12499);
        Check.is("Promise 21: NONE, all groups", x.crowd(1, NONE, 4), 2499);
        Check.is("Promise 21: the first group", x.crowd(1, 0, 4), 1249);
        Check.is("Promise 21: the last group", x.crowd(1, 1, 4), 1250);
        Check.is("Promise 37: NONE, all groups", x.middle(NONE, 4), 7);
        Check.is("Promise 37: the last group", x.middle(1, 4), 7);
        outside("Promise 9: group", 0, 1, n -> x.people(0, n, 1));
        outside("Promise 16: group", 0, 1, n -> x.dots(0, n, 0));
        outside("Promise 17: group", 0, 1, n -> x.carried(0, n, 0));
        outside("Promise 18: group", 0, 1, n -> x.left(n, 0));
        outside("Promise 20: group", 0, 1, n -> x.dot(0, n, 0, 0));
        outside("Promise 23: group", 0, 1, n -> x.off(0, n));
        // NONE stands for all groups in these, so -2 is the first below that is none.
        outside("Promise 19: group", NONE, 1, n -> x.all(n, 0));
        outside("Promise 21: group", NONE, 1, n -> x.crowd(0, n, 0));
        outside("Promise 37: group", NONE, 1, n -> x.middle(n, 0));
    }

    // ---- LEVEL ----

    // Of each group a has 99999, 49999, 24999, 12499, 6249 dots, b 99999, 50000, 25000, 12500, 6250.
    private static void levelsOfNumbers() {
        DotSpreader x = wide();
        Check.answers("Promise 16: dots of a at level", n -> x.dots(0, 0, n), 99999, 49999, 24999, 12499, 6249);
        Check.answers("Promise 16: dots of b at level", n -> x.dots(1, 1, n), 99999, 50000, 25000, 12500, 6250);
        Check.answers("Promise 17: carried to a at level", n -> x.carried(0, 0, n), 0, 0, 0, 0, 0);
        Check.answers("Promise 17: carried to b at level", n -> x.carried(1, 0, n), 0, 1, 1, 1, 1);
        Check.answers("Promise 18: left at level", n -> x.left(0, n), 0, 0, 1, 1, 1);
        Check.answers("Promise 19: all at level", n -> x.all(NONE, n), 399996, 199998, 99998, 49998, 24998);
        Check.is("Promise 39: joined at level 0", x.joined(0, 1, 0), 199998);
        Check.is("Promise 39: joined at level 4", x.joined(0, 1, 4), 12498);
    }

    // On the cells of a stand 2500, 2499, 2500, 2499, 2500 dots of level 4, on each of b 2500.
    private static void levelsOfPlaces() {
        DotSpreader x = wide();
        Check.is("Promise 20: the last dot of level 4", x.dot(1, 1, 4, 6249), 13);
        Check.refusesMissing("Promise 20: behind the last dot of level 4", () -> x.dot(1, 1, 4, 6250));
        Check.answers("Promise 21: crowd at level 4 of cell", n -> x.crowd(n, NONE, 4),
                2500, 2499, 2500, 2499, 2500, 0, 0, 0, 0, 0, 2500, 2500, 2500, 2500, 2500);
        Check.is("Promise 22: level 4", x.apart(4), 1);
        Check.is("Promise 25: level 4", x.tries(0, 1, 1, 0, 4, 4), 0);
        Check.is("Promise 29: level 4", x.best(0, 4, 0), 0);
        Check.is("Promise 30: level 4", x.nearest(7, 4), 2);
        Check.is("Promise 32: level 4", x.thinned(4, 4, NONE), 6);
        Check.is("Promise 33: level 4", x.tour(4, 5), 14);
        Check.is("Promise 34: level 4", x.way(4), 12);
        Check.is("Promise 35: level 4", x.hull(4, NONE), 4);
        Check.is("Promise 36: level 4", x.area(4), 16);
        Check.is("Promise 38: level 4, a row", x.line(false, 0, 4), 12498);
        Check.is("Promise 38: level 4, a column", x.line(true, 1, 4), 4999);
    }

    private static void levelCalls() {
        DotSpreader x = wide();
        outside("Promise 16: level", 0, 4, n -> x.dots(0, 0, n));
        outside("Promise 17: level", 0, 4, n -> x.carried(0, 0, n));
        outside("Promise 18: level", 0, 4, n -> x.left(0, n));
        outside("Promise 19: level", 0, 4, n -> x.all(0, n));
        outside("Promise 20: level", 0, 4, n -> x.dot(0, 0, n, 0));
        outside("Promise 21: level", 0, 4, n -> x.crowd(0, 0, n));
        outside("Promise 22: level", 0, 4, x::apart);
        outside("Promise 25: level", 0, 4, n -> x.tries(0, 1, 0, 0, 0, n));
        outside("Promise 28: level", 0, 4, n -> x.measure(0, 0, n, 0));
        outside("Promise 28: level of the sea", 0, 4, n -> x.measure(0, 3, n, 0));
        outside("Promise 29: level", 0, 4, n -> x.best(0, n, 0));
        outside("Promise 29: level of the sea", 0, 4, n -> x.best(3, n, 0));
        outside("Promise 30: level", 0, 4, n -> x.nearest(0, n));
        outside("Promise 31: level", 0, 4, n -> x.served(0, n));
        outside("Promise 32: level", 0, 4, n -> x.thinned(n, 0, 0));
        outside("Promise 33: level", 0, 4, n -> x.tour(n, 0));
        outside("Promise 34: level", 0, 4, x::way);
        outside("Promise 35: level", 0, 4, n -> x.hull(n, 0));
        outside("Promise 36: level", 0, 4, x::area);
        outside("Promise 37: level", 0, 4, n -> x.middle(0, n));
        outside("Promise 38: level of a row", 0, 4, n -> x.line(false, 0, n));
        outside("Promise 38: level of a column", 0, 4, n -> x.line(true, 0, n));
        outside("Promise 39: level", 0, 4, n -> x.joined(0, 1, n));
    }

    // ---- ROW and column ----

    private static void rowsAndColumns() {
        DotSpreader x = wide();
        Check.is("Promise 26: the first row", x.run(0, 0, NONE, true), 1);
        Check.is("Promise 26: the last row", x.run(1, 2, NONE, true), 1);
        outside("Promise 26: row", 0, 2, n -> x.run(0, n, NONE, true));
        Check.answers("Promise 38: row", n -> x.line(false, n, 0), 199998, 0, 199998);
        outside("Promise 38: row", 0, 2, n -> x.line(false, n, 0));
        Check.is("Promise 38: the last column", x.line(true, 4, 4), 5000);
        Check.is("Promise 38: the first column", x.line(true, 0, 4), 5000);
        outside("Promise 38: column", 0, 4, n -> x.line(true, n, 0));
        DotSpreader most = Check.map(CORNERS);
        Check.is("Promise 38: row 15", most.line(false, 15, 0), 1);
        Check.is("Promise 38: column 23", most.line(true, 23, 0), 1);
        outside("Promise 38: of 16 rows no", 0, 15, n -> most.line(false, n, 0));
        outside("Promise 38: of 24 columns no", 0, 23, n -> most.line(true, n, 0));
    }

    private interface Edge {
        int at(int zone, int other, int row, int from, int to);
    }

    private static void edges() {
        DotSpreader x = wide();
        Check.is("Promise 24: the whole of the last row", x.move(1, 0, 2, 0, 4), 5);
        Check.is("Promise 24: one column, the first", x.move(0, 1, 2, 0, 0), 1);
        Check.is("Promise 24: one column, the last", x.move(0, 1, 0, 4, 4), 1);
        Check.is("Term AN EDGE: those alone are moved", x.zone(1, 0), 2);
        Check.is("Term AN EDGE: of the first row the last", x.cell(4, 0), 1);
        Check.is("Term AN EDGE: not the one beside it", x.cell(3, 0), 0);
        edgesOutside("Promise 24: ", x::move);
        edgesOutside("Promise 25: ", (zone, other, row, from, to) -> x.tries(zone, other, row, from, to, 0));
    }

    private static void edgesOutside(String what, Edge edge) {
        outside(what + "row", 0, 2, n -> edge.at(0, 1, n, 0, 4));
        Check.refusesNumber(what + "a column below 0", () -> edge.at(0, 1, 0, -1, 4));
        Check.refusesNumber(what + "the column WIDTH", () -> edge.at(0, 1, 0, 0, 5));
        Check.refusesNumber(what + "both columns behind the last", () -> edge.at(0, 1, 0, 5, 5));
        Check.refusesNumber(what + "both columns below 0", () -> edge.at(0, 1, 0, -1, -1));
        Check.refusesNumber(what + "the second column below the first", () -> edge.at(0, 1, 0, 1, 0));
        Check.refusesNumber(what + "the greatest column", () -> edge.at(0, 1, 0, 0, Integer.MAX_VALUE));
        Check.refusesNumber(what + "the least column", () -> edge.at(0, 1, 0, Integer.MIN_VALUE, 4));
    }

    // ---- people, UNIT, FACTOR, n ----

    private static void people() {
        DotSpreader x = wide();
        Check.is("Promise 9: 0 people", x.people(0, 0, 0), 99999);
        Check.is("Promise 9: 99999 people", x.people(0, 0, 99999), 0);
        Check.is("Promise 10: 99999 people", x.lives(0, 0), 99999);
        for (int n : new int[] {-1, 100000, Integer.MIN_VALUE, Integer.MAX_VALUE}) {
            Check.refusesNumber("Promise 9: people " + n, () -> x.people(0, 0, n));
        }
        Check.is("Promise 10: they stay", x.lives(0, 0), 99999);
        Check.is("Promise 44: people of all", x.count(10), 399996);
    }

    private static void units() {
        DotSpreader x = Check.map("size 2 2;zone a people 99999;row a 0:0-0;");
        Check.is("Term UNIT: 100 at first", x.unit(9999), 100);
        Check.is("Term UNIT: dots of 9999", x.dots(0, 0, 0), 10);
        Check.is("Term UNIT: left of 9999", x.left(0, 0), 9);
        Check.is("Promise 23: off of 9999", x.off(0, 0), -9);
        Check.is("Promise 12: 1", x.unit(1), 9999);
        Check.is("Term UNIT: dots of 1", x.dots(0, 0, 0), 99999);
        for (int n : new int[] {0, -1, 10000, Integer.MIN_VALUE, Integer.MAX_VALUE}) {
            Check.refusesNumber("Promise 12: unit " + n, () -> x.unit(n));
        }
        Check.is("Promise 44: the unit stays", x.count(7), 1);
        x.unit(100);
        x.people(0, 0, 99);
        Check.is("Term DOTS: one less than UNIT", x.dots(0, 0, 0), 0);
        x.people(0, 0, 100);
        Check.is("Term DOTS: UNIT", x.dots(0, 0, 0), 1);
        x.people(0, 0, 199);
        Check.is("Term DOTS: rounded down", x.dots(0, 0, 0), 1);
        Check.is("Term LEFT: all but one of UNIT", x.left(0, 0), 99);
    }

    private static void factors() {
        DotSpreader x = Check.map("size 2 2;zone a people 10000;row a 0:0-0;");
        Check.answers("Term FACTOR: by 5 at level", n -> x.dots(0, 0, n), 100, 20, 4, 0, 0);
        Check.is("Term FACTOR: 5 at first", x.factor(10), 5);
        Check.answers("Term FACTOR: by 10 at level", n -> x.dots(0, 0, n), 100, 10, 1, 0, 0);
        Check.is("Promise 13: 2", x.factor(2), 10);
        Check.answers("Term FACTOR: by 2 at level", n -> x.dots(0, 0, n), 100, 50, 25, 12, 6);
        Check.answers("Term LEFT: by 2 at level", n -> x.left(0, n), 0, 0, 0, 1, 0);
        for (int n : new int[] {1, 0, -1, 11, Integer.MIN_VALUE, Integer.MAX_VALUE}) {
            Check.refusesNumber("Promise 13: factor " + n, () -> x.factor(n));
        }
        Check.is("Promise 44: the factor stays", x.count(8), 2);
    }

    // The corners of the greatest map are FAR 23 times 23 and 15 times 15: 754.
    private static void farOfMeasures() {
        DotSpreader x = Check.map(CORNERS);
        Check.is("Promise 28: n 0", x.measure(0, 1, 0, 0), 1);
        Check.is("Promise 28: n one less than FAR", x.measure(0, 1, 0, 753), 1);
        Check.is("Promise 28: FAR of n at most", x.measure(0, 1, 0, 754), 2);
        Check.is("Promise 28: n 999", x.measure(0, 1, 0, 999), 2);
        Check.is("Promise 29: n 0", x.best(1, 0, 0), 0);
        Check.is("Promise 29: n 999", x.best(1, 0, 999), 0);
        for (int n : new int[] {-1, 1000, Integer.MIN_VALUE, Integer.MAX_VALUE}) {
            for (int measure = 0; measure < 5; measure++) {
                int m = measure;
                Check.refusesNumber("Promise 28: measure " + m + ", n " + n, () -> x.measure(0, m, 0, n));
                Check.refusesNumber("Promise 29: measure " + m + ", n " + n, () -> x.best(m, 0, n));
            }
        }
    }

    private static void farOfThinned() {
        DotSpreader x = Check.map(CORNERS);
        Check.is("Promise 32: n 0", x.thinned(0, 0, NONE), 2);
        Check.is("Promise 32: FAR n or more", x.thinned(0, 754, NONE), 2);
        Check.is("Promise 32: the last kept", x.thinned(0, 754, 1), 383);
        Check.is("Promise 32: n one more than FAR", x.thinned(0, 755, NONE), 1);
        Check.is("Promise 32: behind the one kept", x.thinned(0, 755, 1), NONE);
        Check.is("Promise 32: n 999", x.thinned(0, 999, NONE), 1);
        for (int n : new int[] {-1, 1000, Integer.MIN_VALUE, Integer.MAX_VALUE}) {
            Check.refusesNumber("Promise 32: n " + n, () -> x.thinned(0, n, NONE));
        }
        Check.is("Promise 22: the greatest FAR", x.apart(0), 754);
        Check.is("Promise 34: the greatest step", x.way(0), 754);
    }

    // ---- what, k ----

    private static void whats() {
        DotSpreader x = wide();
        Check.is("Promise 6: what 0", x.cell(14, 0), 1);
        Check.is("Promise 6: what 1", x.cell(14, 1), 0);
        Check.answers("Promise 7: what", n -> x.zone(0, n), 5, 5, 1, 0, 0, 1);
        Check.answers("Promise 28: measure", n -> x.measure(7, n, 4, 1), 0, 5000, 1, -1, 2);
        // Within 1 of cell 1 are 2500, 2499 and 2500 dots, of cell 11 three times 2500.
        Check.answers("Promise 29: measure", n -> x.best(n, 4, 1), 0, 11, 0, 0, 0);
        Check.answers("Promise 44: what", x::count, 5, 3, 2, 2, 0, 10, 5, 1, 2, 0, 399996, NONE);
        for (int n : new int[] {-1, Integer.MIN_VALUE, Integer.MAX_VALUE}) {
            whatsOutside(x, n);
            Check.is("Promise 44: what " + n, x.count(n), NONE);
        }
        Check.refusesMissing("Promise 6: what 2", () -> x.cell(0, 2));
        Check.refusesMissing("Promise 7: what 6", () -> x.zone(0, 6));
        Check.refusesMissing("Promise 28: measure 5", () -> x.measure(0, 5, 0, 0));
        Check.refusesMissing("Promise 29: measure 5", () -> x.best(5, 0, 0));
    }

    private static void whatsOutside(DotSpreader x, int n) {
        Check.refusesMissing("Promise 6: what " + n, () -> x.cell(0, n));
        Check.refusesMissing("Promise 7: what " + n, () -> x.zone(0, n));
        Check.refusesMissing("Promise 20: dot " + n, () -> x.dot(0, 0, 0, n));
        Check.refusesMissing("Promise 28: measure " + n, () -> x.measure(0, n, 0, 0));
        Check.refusesMissing("Promise 29: measure " + n, () -> x.best(n, 0, 0));
    }

    private static void letters() {
        DotSpreader x = Check.map("size 2 2;zone z people 1;zone azazaz people 1;");
        Check.answers("Promise 8: a name of 1 letter", n -> x.name(0, n), 'z', NONE);
        Check.answers("Promise 8: a name of 6 letters", n -> x.name(1, n), 'a', 'z', 'a', 'z', 'a', 'z', NONE);
        Check.is("Promise 8: far behind it", x.name(1, Integer.MAX_VALUE), NONE);
        Check.is("Promise 8: ahead of it", x.name(1, -1), NONE);
    }

    private static void placesInRows() {
        DotSpreader x = wide();
        x.write(0);
        Check.answers("Promise 14: k", n -> x.order(0, n), 2, 0, 4, 1, 3, NONE);
        Check.answers("Promise 26: k, first column", n -> x.run(0, 0, n, false), 0, NONE);
        Check.answers("Promise 26: k, last column", n -> x.run(0, 0, n, true), 4, NONE);
        Check.answers("Promise 32: k", n -> x.thinned(4, 16, n), 0, 4, NONE);
        Check.answers("Promise 33: k", n -> x.tour(4, n), 0, 1, 2, 3, 4, 14, 13, 12, 11, 10, NONE);
        Check.answers("Promise 35: k", n -> x.hull(4, n), 0, 4, 14, 10, NONE);
        Check.is("Promise 43: the first byte", x.octet(0), 'r');
        Check.is("Promise 43: the last byte", x.octet(12), ';');
        Check.is("Promise 43: behind the last byte", x.octet(13), NONE);
        for (int n : new int[] {-2, Integer.MIN_VALUE, Integer.MAX_VALUE}) {
            Check.is("Promise 14: k " + n, x.order(0, n), NONE);
            Check.is("Promise 26: k " + n, x.run(0, 0, n, false), NONE);
            Check.is("Promise 32: k " + n, x.thinned(4, 16, n), NONE);
            Check.is("Promise 33: k " + n, x.tour(4, n), NONE);
            Check.is("Promise 35: k " + n, x.hull(4, n), NONE);
            Check.is("Promise 43: k " + n, x.octet(n), NONE);
        }
        Check.is("Promise 14: k -1", x.order(0, -1), NONE);
        Check.is("Promise 14: k -1 of the second zone", x.order(1, -1), NONE);
        Check.is("Promise 14: behind the first zone's last", x.order(0, 5), NONE);
        Check.is("Promise 43: k -1", x.octet(-1), NONE);
    }

    // ---- UNIT and LEVEL that would do ----

    private static void fitsAndScale() {
        DotSpreader x = Check.map("size 2 2;zone a people 99980;row a 0:0-0;");
        Check.is("Promise 40: 9999, the last unit", x.fits(9), 9999);
        Check.is("Promise 40: the unit ahead of it", x.fits(10), 9090);
        Check.is("Promise 40: none does", x.fits(8), NONE);
        Check.is("Promise 40: 1, the first unit", x.fits(99980), 1);
        Check.is("Promise 40: 1 is one dot too many", x.fits(99979), 2);
        Check.is("Promise 40: the least n", x.fits(Integer.MIN_VALUE), NONE);
        Check.is("Promise 40: the greatest n", x.fits(Integer.MAX_VALUE), 1);
        x.people(0, 0, 99990);
        Check.is("Promise 40: 9999 is one dot too many", x.fits(9), NONE);
        x.factor(2);
        Check.answers("Promise 19: at level", n -> x.all(NONE, n), 999, 499, 249, 124, 62);
        Check.is("Promise 41: not more than n at level 0", x.scale(999), 0);
        Check.is("Promise 41: one more than n at level 0", x.scale(998), 1);
        Check.is("Promise 41: not more than n at level 4", x.scale(62), 4);
        Check.is("Promise 41: one more than n at level 4", x.scale(61), NONE);
        Check.is("Promise 41: one more than n at level 3", x.scale(123), 4);
        Check.is("Promise 41: the least n", x.scale(Integer.MIN_VALUE), NONE);
        Check.is("Promise 41: the greatest n", x.scale(Integer.MAX_VALUE), 0);
    }
}
