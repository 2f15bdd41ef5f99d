/** Empty: no CELLS at first, ZONES without CELLS or LAND, no DOTS and one alone, a TAPE without bytes, nothing WRITTEN. */
public final class EmptyTest {
    private static final int NONE = DotSpreader.NONE;
    private static final int[] LEVELS = {0, 1, 2, 3, 4};

    public static void main(String[] args) {
        atFirst();
        noCellsAtFirst();
        noZonesAtFirst();
        noDotsAtFirst();
        emptyTape();
        mapWithoutZones();
        zoneWithoutCells();
        zoneWithoutCellsMoved();
        zoneWithoutCellsJoined();
        zoneWithoutLand();
        zoneWithoutLandMoved();
        allSea();
        noDots();
        oneAlone();
        oneCellAlone();
        groupWithoutDots();
        nothingWritten();
        Check.done("EmptyTest");
    }

    private interface OfLevel {
        long at(int level);
    }

    private static void allLevels(String what, long due, OfLevel call) {
        for (int level : LEVELS) {
            Check.is(what + " at level " + level, call.at(level), due);
        }
    }

    // ---- at first ----

    private static void atFirst() {
        DotSpreader x = new DotSpreader();
        Check.answers("Promise 1: at first count", x::count, 0, 0, 0, 1, 0, 0, 0, 100, 5, 0, 0);
        Check.is("Promise 5: no fault at first", x.fault(), NONE);
        Check.is("Term UNIT: 100 at first", x.unit(100), 100);
        Check.is("Term FACTOR: 5 at first", x.factor(5), 5);
        Check.is("Promise 43: no byte at first", x.octet(0), NONE);
    }

    private static void noCellsAtFirst() {
        DotSpreader x = new DotSpreader();
        for (int cell : new int[] {0, NONE, 1}) {
            String what = " at first no cell " + cell;
            Check.refusesIndex("Promise 6:" + what, () -> x.cell(cell, 0));
            Check.refusesIndex("Promise 11:" + what, () -> x.flood(cell, true) ? 1 : 0);
            Check.refusesIndex("Promise 15:" + what, () -> x.stands(cell));
            Check.refusesIndex("Promise 21:" + what, () -> x.crowd(cell, NONE, 0));
            Check.refusesIndex("Promise 27:" + what, () -> x.part(cell));
            Check.refusesIndex("Promise 28:" + what, () -> x.measure(cell, 0, 0, 0));
            Check.refusesIndex("Promise 30:" + what, () -> x.nearest(cell, 0));
            Check.refusesIndex("Promise 31:" + what, () -> x.served(cell, 0));
            Check.refusesIndex("Promise 38:" + what + " in a row", () -> x.line(false, cell, 0));
            Check.refusesIndex("Promise 38:" + what + " in a column", () -> x.line(true, cell, 0));
        }
    }

    private static void noZonesAtFirst() {
        DotSpreader x = new DotSpreader();
        Check.refusesIndex("Promise 7: at first no zone", () -> x.zone(0, 0));
        Check.refusesIndex("Promise 8: at first no zone", () -> x.name(0, 0));
        Check.refusesIndex("Promise 9: at first no zone", () -> x.people(0, 0, 1));
        Check.refusesIndex("Promise 10: at first no zone", () -> x.lives(0, 0));
        Check.refusesIndex("Promise 14: at first no zone", () -> x.order(0, 0));
        Check.refusesIndex("Promise 16: at first no zone", () -> x.dots(0, 0, 0));
        Check.refusesIndex("Promise 17: at first no zone", () -> x.carried(0, 0, 0));
        Check.refusesIndex("Promise 20: at first no zone", () -> x.dot(0, 0, 0, 0));
        Check.refusesIndex("Promise 23: at first no zone", () -> x.off(0, 0));
        Check.refusesIndex("Promise 24: at first no zone", () -> x.move(0, 1, 0, 0, 0));
        Check.refusesIndex("Promise 25: at first no zone", () -> x.tries(0, 1, 0, 0, 0, 0));
        Check.refusesIndex("Promise 26: at first no zone", () -> x.run(0, 0, NONE, false));
        Check.refusesIndex("Promise 39: at first no zone", () -> x.joined(0, 1, 0));
        Check.refusesIndex("Promise 42: at first no zone", () -> x.write(0));
    }

    private static void noDotsAtFirst() {
        DotSpreader x = new DotSpreader();
        withoutDots("at first", x);
        for (int measure = 0; measure < 5; measure++) {
            Check.is("Promise 29: at first none best by " + measure, x.best(measure, 0, 0), NONE);
        }
        allLevels("Promise 18: at first nothing is left", 0, l -> x.left(0, l));
        Check.refusesIndex("Promise 18: at first 1 group", () -> x.left(1, 0));
        Check.refusesIndex("Promise 19: at first 1 group", () -> x.all(1, 0));
        Check.refusesIndex("Promise 37: at first 1 group", () -> x.middle(1, 0));
        Check.is("Promise 40: no dots are not more than 0", x.fits(0), 1);
        Check.is("Promise 40: but more than -1", x.fits(-1), NONE);
        Check.is("Promise 41: no dots are not more than 0", x.scale(0), 0);
        Check.is("Promise 41: but more than -1", x.scale(-1), NONE);
    }

    /** What is so of every object that has no dots, whatever its map is. */
    private static void withoutDots(String when, DotSpreader x) {
        String what = " without dots, " + when;
        allLevels("Promise 19: all" + what, 0, l -> x.all(NONE, l));
        allLevels("Promise 19: all of a group" + what, 0, l -> x.all(0, l));
        allLevels("Promise 22: apart" + what, NONE, x::apart);
        allLevels("Promise 32: how many kept" + what, 0, l -> x.thinned(l, 0, NONE));
        allLevels("Promise 32: the first kept" + what, NONE, l -> x.thinned(l, 0, 0));
        allLevels("Promise 33: how many of the tour" + what, 0, l -> x.tour(l, NONE));
        allLevels("Promise 33: the first of the tour" + what, NONE, l -> x.tour(l, 0));
        allLevels("Promise 34: way" + what, 0, x::way);
        allLevels("Promise 35: how many corners" + what, 0, l -> x.hull(l, NONE));
        allLevels("Promise 35: the first corner" + what, NONE, l -> x.hull(l, 0));
        allLevels("Promise 36: area" + what, 0, x::area);
        allLevels("Promise 37: middle" + what, NONE, l -> x.middle(NONE, l));
        allLevels("Promise 37: middle of a group" + what, NONE, l -> x.middle(0, l));
    }

    // ---- the TAPE ----

    private static void emptyTape() {
        DotSpreader x = new DotSpreader();
        Check.is("Promise 3: no bytes are cut to none", x.end(0), true);
        Check.is("Promise 3: it has fewer than 1", x.end(1), false);
        Check.is("Promise 3: below 0", x.end(-1), false);
        Check.refusesNumber("Promise 4: a text without bytes", x::read);
        Check.is("Promise 5: its fault is its length", x.fault(), 0);
        Check.is("Promise 2: the first bytes", x.feed(0x73697a65, 0x20332032, 0x3b202020, 0x20202020, 0x20202020), 20);
        Check.is("Promise 3: all are taken away", x.end(0), true);
        Check.is("Promise 3: so it has fewer than 1", x.end(1), false);
        Check.refusesNumber("Promise 4: a text of which nothing is left", x::read);
        Check.is("Promise 2: the first bytes again", x.feed(0x73697a65, 0x20332032, 0x3b202020, 0x20202020, 0x20202020), 20);
        Check.is("Promise 4: they are a map", x.read(), 0);
        Check.is("Promise 4: which is there", x.count(0), 3);
        Check.is("Promise 4: the TAPE is used up", x.end(1), false);
        Check.is("Promise 4: and has no bytes", x.feed(0, 0, 0, 0, 0), 20);
    }

    // ---- maps ----

    private static void mapWithoutZones() {
        DotSpreader x = Check.map("size 3 2;sea 1:2-2;");
        Check.answers("Promise 44: a map without zones", x::count, 3, 2, 0, 1, 1, 0, 5, 100, 5, 0, 0);
        withoutDots("without zones", x);
        Check.refusesIndex("Promise 7: no zones", () -> x.zone(0, 0));
        Check.answers("Promise 6: of no zone", c -> x.cell(c, 0), NONE, NONE, NONE, NONE, NONE, NONE);
        Check.answers("Promise 6: sea of no zone", c -> x.cell(c, 1), 0, 0, 0, 0, 0, 1);
        Check.answers("Promise 15: in no order", x::stands, NONE, NONE, NONE, NONE, NONE, NONE);
        Check.answers("Promise 27: in no part", x::part, NONE, NONE, NONE, NONE, NONE, NONE);
        Check.answers("Promise 28: far to the sea", c -> x.measure(c, 3, 0, 0), 5, 2, 1, 4, 1, 0);
        for (int measure = 0; measure < 5; measure++) {
            Check.is("Promise 29: without land none is best by " + measure, x.best(measure, 0, 999), NONE);
        }
        Check.is("Promise 30: none is nearest", x.nearest(0, 0), NONE);
        Check.is("Promise 31: none is served", x.served(0, 0), 0);
        Check.is("Promise 38: nobody in a row", x.line(false, 1, 0), 0);
        Check.is("Promise 38: nobody in a column", x.line(true, 2, 0), 0);
        Check.is("Promise 11: sea of no zone is sea no more", x.flood(5, false), true);
        Check.is("Promise 28: without sea", x.measure(0, 3, 0, 0), -1);
    }

    // The zones a and c have no cells; a's 250 are carried to b, of its 380 then 80 are carried to c, 150 are left.
    private static DotSpreader bare() {
        return Check.map("size 3 2;zone a people 250;zone b people 130;zone c people 70;row b 0:0-2;");
    }

    private static void zoneWithoutCells() {
        DotSpreader x = bare();
        Check.answers("Promise 7: a zone without cells, what", w -> x.zone(0, w), 0, 0, 0, 0, 0, 0);
        Check.answers("Promise 7: the last zone without cells, what", w -> x.zone(2, w), 0, 0, 0, 0, 0, 0);
        Check.is("Promise 8: its name", x.name(0, 0), 'a');
        Check.is("Promise 10: its people", x.lives(0, 0), 250);
        Check.is("Promise 14: its order", x.order(0, 0), NONE);
        Check.answers("Term DOTS: none of a zone without land", z -> x.dots(z, 0, 0), 0, 3, 0);
        Check.answers("Term CARRIED: its people, too", z -> x.carried(z, 0, 0), 0, 250, 80);
        Check.answers("Term LEFT: level", l -> x.left(0, l), 150, 3, 0, 0, 0);
        Check.answers("Term CARRIED: at level 1", z -> x.carried(z, 0, 1), 0, 0, 3);
        Check.refusesMissing("Promise 20: no dot of it", () -> x.dot(0, 0, 0, 0));
        Check.answers("Promise 23: off", z -> x.off(z, 0), -250, 170, -70);
        Check.is("Promise 26: no runs", x.run(0, 0, NONE, false), 0);
        Check.is("Promise 26: so no first", x.run(0, 0, 0, false), NONE);
        Check.is("Promise 26: nor last", x.run(0, 0, 0, true), NONE);
        Check.is("Promise 42: nothing to write", x.write(0), 0);
        Check.is("Promise 43: so no byte", x.octet(0), NONE);
        Check.is("Promise 44: people of it count", x.count(10), 450);
        Check.is("Promise 9: they are told as others", x.people(2, 0, 0), 70);
        Check.is("Term LEFT: without them", x.left(0, 0), 80);
    }

    private static void zoneWithoutCellsMoved() {
        DotSpreader x = bare();
        Check.is("Promise 25: nothing of it, nothing new", x.tries(0, 1, 0, 0, 2, 0), 0);
        Check.is("Promise 24: of it no cells", x.move(0, 1, 0, 0, 2), 0);
        Check.is("Term AN EDGE: none go where there is no land", x.lives(0, 0), 250);
        Check.is("Term AN EDGE: and none come", x.lives(1, 0), 130);
        Check.is("Promise 24: all cells to it", x.move(1, 0, 0, 0, 2), 3);
        Check.is("Term AN EDGE: all go along", x.lives(0, 0), 380);
        Check.is("Term AN EDGE: none stays", x.lives(1, 0), 0);
        Check.answers("Term DOTS: it has them", z -> x.dots(z, 0, 0), 3, 0, 0);
        Check.answers("Promise 7: the other has no cells, what", w -> x.zone(1, w), 0, 0, 0, 0, 0, 0);
        Check.is("Promise 14: nor an order", x.order(1, 0), NONE);
        Check.answers("Promise 14: which it has", k -> x.order(0, k), 1, 0, 2, NONE);
        Check.is("Promise 24: of the other no cells", x.move(1, 0, 0, 0, 2), 0);
    }

    private static void zoneWithoutCellsJoined() {
        DotSpreader x = bare();
        Check.is("Promise 39: land comes to it", x.joined(0, 1, 0), 3);
        Check.is("Promise 39: its people come to land", x.joined(1, 0, 0), 3);
        Check.is("Promise 39: land comes to the last, 250 are carried", x.joined(2, 1, 0), 4);
        Check.is("Promise 39: neither has land", x.joined(0, 2, 0), 0);
        Check.is("Promise 39: neither has land", x.joined(2, 0, 0), 0);
        Check.answers("Promise 39: nothing stays, people", z -> x.lives(z, 0), 250, 130, 70);
        Check.answers("Promise 39: nothing stays, cells", z -> x.zone(z, 0), 0, 3, 0);
    }

    // ~ ~ ~   all of a is sea
    // b b .
    private static DotSpreader sunk() {
        return Check.map("size 3 2;groups 2;zone a people 250,30;zone b people 130,99;row a 0:0-2;row b 1:0-1;sea 0:0-2;");
    }

    private static void zoneWithoutLand() {
        DotSpreader x = sunk();
        Check.answers("Promise 7: a zone without land, what", w -> x.zone(0, w), 3, 0, 0, 0, 0, 0);
        Check.answers("Promise 7: its neighbour, what", w -> x.zone(1, w), 2, 2, 1, 2, 0, 1);
        Check.is("Promise 6: the sea is its own", x.cell(0, 0), 0);
        Check.is("Promise 14: its order", x.order(0, 0), NONE);
        Check.is("Promise 15: its cell is in none", x.stands(0), NONE);
        Check.is("Promise 27: nor in a part", x.part(0), NONE);
        Check.is("Term DOTS: none of group 0", x.dots(0, 0, 0), 0);
        Check.is("Term DOTS: none of group 1", x.dots(0, 1, 0), 0);
        Check.is("Term CARRIED: its people of group 0", x.carried(1, 0, 0), 250);
        Check.is("Term CARRIED: its people of group 1", x.carried(1, 1, 0), 30);
        Check.is("Term DOTS: of group 0 where there is land", x.dots(1, 0, 0), 3);
        Check.is("Term DOTS: of group 1 where there is land", x.dots(1, 1, 0), 1);
        Check.answers("Term LEFT: group", g -> x.left(g, 0), 80, 29);
        Check.refusesMissing("Promise 20: no dot of it", () -> x.dot(0, 1, 0, 0));
        Check.is("Promise 21: nobody stands on the sea", x.crowd(0, NONE, 0), 0);
        Check.is("Promise 26: no runs", x.run(0, 0, NONE, true), 0);
        Check.is("Promise 42: nothing to write", x.write(0), 0);
        Check.is("Promise 29: the sea is no land, though it is farthest", x.best(2, 0, 0), 3);
        Check.is("Promise 31: the sea is not served", x.served(3, 0) + x.served(4, 0), 2);
    }

    private static void zoneWithoutLandMoved() {
        DotSpreader x = sunk();
        Check.is("Promise 25: its sea makes nothing new", x.tries(0, 1, 0, 0, 2, 0), 0);
        Check.is("Promise 24: its sea moves", x.move(0, 1, 0, 0, 0), 1);
        Check.is("Term AN EDGE: none go where there is no land", x.lives(0, 0) * 1000 + x.lives(0, 1), 250030);
        Check.is("Promise 6: the sea is the other's", x.cell(0, 0), 1);
        Check.is("Promise 11: the sea goes", x.flood(1, false), true);
        Check.is("Term DOTS: it has land", x.dots(0, 0, 0), 2);
        Check.is("Promise 24: land and sea move", x.move(0, 1, 0, 0, 2), 2);
        Check.is("Term AN EDGE: all go with the last land", x.lives(0, 0) + x.lives(0, 1), 0);
        Check.is("Term AN EDGE: of group 0", x.lives(1, 0), 380);
        Check.is("Term AN EDGE: of group 1", x.lives(1, 1), 129);
    }

    private static void allSea() {
        DotSpreader x = Check.map("size 2 2;zone a people 500;row a 0:0-1;row a 1:0-1;sea 0:0-1;sea 1:0-1;");
        withoutDots("under the sea", x);
        Check.answers("Promise 44: all is sea", x::count, 2, 2, 1, 1, 4, 0, 0, 100, 5, 0, 500);
        Check.answers("Term LEFT: all people", l -> x.left(0, l), 500, 0, 0, 0, 0);
        Check.is("Promise 40: no dots by any unit", x.fits(0), 1);
        Check.is("Promise 41: no dots at any level", x.scale(0), 0);
        Check.is("Promise 29: without land", x.best(3, 0, 0), NONE);
        Check.is("Promise 28: sea is FAR 0 from itself", x.measure(3, 3, 0, 0), 0);
        Check.is("Promise 11: one cell rises", x.flood(3, false), true);
        Check.is("Promise 21: all dots stand there", x.crowd(3, NONE, 0), 5);
        Check.is("Promise 7: its sides at the sea, not at the edge", x.zone(0, 3), 2);
        Check.is("Promise 29: it is best", x.best(3, 0, 0), 3);
    }

    // ---- DOTS ----

    private static final String SQUARE = "size 3 3;zone a people 99;row a 0:0-2;row a 1:0-2;row a 2:0-2;";

    private static void noDots() {
        DotSpreader x = Check.map(SQUARE);
        withoutDots("one less than a unit", x);
        Check.is("Term LEFT: they are left", x.left(0, 0), 99);
        Check.is("Promise 16: no dots", x.dots(0, 0, 0), 0);
        Check.refusesMissing("Promise 20: no dot 0", () -> x.dot(0, 0, 0, 0));
        Check.is("Promise 21: no crowd", x.crowd(4, NONE, 0), 0);
        Check.is("Promise 23: off", x.off(0, 0), -99);
        Check.answers("Promise 28: measure", m -> x.measure(4, m, 0, 999), 0, 0, -1, -1, 0);
        Check.answers("Promise 29: the least of several by", m -> x.best(m, 0, 999), 0, 0, 0, 0, 0);
        Check.is("Promise 30: none is nearest", x.nearest(4, 0), NONE);
        Check.is("Promise 31: none is served", x.served(4, 0), 0);
        Check.is("Promise 38: nobody in a row", x.line(false, 1, 0), 0);
        Check.is("Promise 38: nobody in a column", x.line(true, 1, 0), 0);
    }

    // The middle of the square is first in the order.
    private static void oneAlone() {
        DotSpreader x = Check.map(SQUARE);
        x.people(0, 0, 100);
        Check.is("Promise 20: the dot", x.dot(0, 0, 0, 0), 4);
        Check.is("Promise 22: there are not two", x.apart(0), NONE);
        Check.answers("Promise 28: from the corner, n 1", m -> x.measure(0, m, 0, 1), 0, 0, 2, -1, 0);
        Check.answers("Promise 28: from a side, n 1", m -> x.measure(1, m, 0, 1), 0, 1, 1, -1, 1);
        Check.answers("Promise 28: from itself, n 0", m -> x.measure(4, m, 0, 0), 1, 1, 0, -1, 1);
        Check.answers("Promise 29: best, n 0", m -> x.best(m, 0, 0), 4, 4, 0, 0, 1);
        Check.answers("Promise 30: nearest of cell", c -> x.nearest(c, 0), 4, 4, 4, 4, 4, 4, 4, 4, 4);
        Check.is("Promise 31: all are served", x.served(4, 0), 9);
        Check.is("Promise 31: by no other", x.served(0, 0), 0);
        Check.is("Promise 32: one is kept", x.thinned(0, 999, NONE), 1);
        Check.answers("Promise 32: that one", k -> x.thinned(0, 999, k), 4, NONE);
        Check.is("Promise 33: one stop", x.tour(0, NONE), 1);
        Check.answers("Promise 33: that one", k -> x.tour(0, k), 4, NONE);
        Check.is("Promise 34: no step", x.way(0), 0);
        Check.is("Promise 35: one corner", x.hull(0, NONE), 1);
        Check.answers("Promise 35: that one", k -> x.hull(0, k), 4, NONE);
        Check.is("Promise 36: no area", x.area(0), 0);
        Check.is("Promise 37: it is the middle", x.middle(NONE, 0), 4);
        withoutDotsAt(1, x);
    }

    private static void withoutDotsAt(int level, DotSpreader x) {
        Check.is("Promise 19: none at the level behind", x.all(NONE, level), 0);
        Check.is("Term LEFT: it is left there", x.left(0, level), 1);
        Check.is("Promise 30: none is nearest there", x.nearest(4, level), NONE);
        Check.is("Promise 35: no corner there", x.hull(level, NONE), 0);
        Check.is("Promise 37: no middle there", x.middle(0, level), NONE);
    }

    private static void oneCellAlone() {
        DotSpreader x = Check.map("size 2 2;zone a people 700;row a 1:0-0;");
        Check.is("Promise 21: many dots on one cell", x.crowd(2, NONE, 0), 7);
        Check.is("Promise 22: they are not two cells", x.apart(0), NONE);
        Check.is("Promise 33: one stop", x.tour(0, NONE), 1);
        Check.is("Promise 34: no step", x.way(0), 0);
        Check.is("Promise 35: one corner", x.hull(0, NONE), 1);
        Check.is("Promise 32: one is kept", x.thinned(0, 0, NONE), 1);
        Check.is("Promise 28: one cell with dots", x.measure(2, 4, 0, 0), 1);
        Check.is("Promise 28: with seven of them", x.measure(2, 1, 0, 0), 7);
    }

    private static void groupWithoutDots() {
        DotSpreader x = Check.map("size 2 2;groups 3;zone a people 100,0,99;row a 0:0-1;");
        Check.answers("Promise 19: all of group", g -> x.all(g, 0), 1, 0, 0);
        Check.answers("Promise 18: left of group", g -> x.left(g, 0), 0, 0, 99);
        Check.answers("Promise 37: middle of group", g -> x.middle(g, 0), 0, NONE, NONE);
        Check.is("Promise 37: middle of all", x.middle(NONE, 0), 0);
        Check.answers("Promise 21: crowd of group", g -> x.crowd(0, g, 0), 1, 0, 0);
        Check.refusesMissing("Promise 20: no dot of group 1", () -> x.dot(0, 1, 0, 0));
    }

    // ---- WRITTEN ----

    private static void nothingWritten() {
        DotSpreader x = Check.map("size 2 2;zone a people 1;zone b people 1;row a 0:0-1;");
        Check.is("Promise 43: nothing written yet", x.octet(0), NONE);
        Check.is("Promise 44: no bytes written yet", x.count(9), 0);
        Check.is("Promise 42: a is written", x.write(0), 13);
        Check.is("Promise 43: it is there", Check.written(x), "row a 0: 0-1;");
        Check.is("Promise 42: b has nothing", x.write(1), 0);
        Check.is("Promise 43: nothing is what was written latest", x.octet(0), NONE);
        Check.is("Promise 44: it has no bytes", x.count(9), 0);
    }
}
