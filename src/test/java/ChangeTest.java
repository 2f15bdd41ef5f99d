/**
 * What is asked again behind each call that changes something: promises 4, 9, 11 to 13 and 24, with what follows from them
 * by the terms; and answers of several kinds and LEVELS in turn, none of which leans on the one ahead of it.
 */
public final class ChangeTest {
    private static final int NONE = DotSpreader.NONE;

    // a a a a a   by 100 the dots stand on 2, 0, 4 (then 1, 3)
    // b . . . .
    private static final String MAP = "size 5 2;zone a people 300;zone b people 0;row a 0:0-4;row b 1:0-0;";

    public static void main(String[] args) {
        people();
        unit();
        factor();
        flood();
        floodOfNoZone();
        move();
        tries();
        otherMap();
        inTurn();
        areaFirst();
        levelsInTurn();
        fewBehindMany();
        Check.done("ChangeTest");
    }

    private static void cells(String what, int level, DotSpreader x, int... due) {
        Check.is(what + ": how many of the tour", x.tour(level, NONE), due.length);
        for (int k = 0; k < due.length; k++) {
            Check.is(what + ": tour " + k, x.tour(level, k), due[k]);
        }
    }

    private static void shape(String what, int level, DotSpreader x, int way, int corners, int area) {
        Check.is(what + ": way", x.way(level), way);
        Check.is(what + ": corners", x.hull(level, NONE), corners);
        Check.is(what + ": area", x.area(level), area);
    }

    private static void people() {
        DotSpreader x = Check.map(MAP);
        cells("Promise 9: 300", 0, x, 0, 2, 4);
        shape("Promise 9: 300", 0, x, 8, 2, 0);
        Check.is("Promise 9: 300, kept", x.thinned(0, 5, NONE), 2);
        x.people(0, 0, 100);
        Check.is("Promise 9: 100, kept", x.thinned(0, 5, NONE), 1);
        cells("Promise 9: 100", 0, x, 2);
        x.people(0, 0, 400);
        cells("Promise 9: 400", 0, x, 0, 1, 2, 4);
        x.people(1, 0, 99);
        cells("Promise 9: 99 of another", 0, x, 0, 1, 2, 4);
        x.people(1, 0, 100);
        cells("Promise 9: 100 of another", 0, x, 0, 1, 2, 4, 5);
        // From 0 both 1 and 5 are FAR 1, and the least of them comes first: so 5 comes last, four columns and a row away.
        Check.is("Promise 9: the way", x.way(0), 1 + 1 + 4 + 17);
        x.people(0, 0, 450);
        Check.is("Promise 17: 50 are carried", x.carried(1, 0, 0), 50);
    }

    private static void unit() {
        DotSpreader x = Check.map(MAP);
        cells("Promise 12: 100", 0, x, 0, 2, 4);
        x.unit(150);
        cells("Promise 12: 150", 0, x, 0, 2);
        shape("Promise 12: 150", 0, x, 4, 2, 0);
        x.unit(301);
        cells("Promise 12: 301", 0, x);
        shape("Promise 12: 301", 0, x, 0, 0, 0);
        x.unit(300);
        cells("Promise 12: 300", 0, x, 2);
        shape("Promise 12: 300", 0, x, 0, 1, 0);
    }

    private static void factor() {
        DotSpreader x = Check.map(MAP);
        x.people(0, 0, 400);
        cells("Promise 13: by 5", 1, x);
        x.factor(2);
        cells("Promise 13: by 2", 1, x, 0, 2);
        cells("Promise 13: by 2 twice", 2, x, 2);
        cells("Promise 13: level 0 is as it was", 0, x, 0, 1, 2, 4);
        x.factor(4);
        cells("Promise 13: by 4", 1, x, 2);
        cells("Promise 13: by 4 twice", 2, x);
    }

    private static void flood() {
        DotSpreader x = Check.map(MAP);
        cells("Promise 11: dry", 0, x, 0, 2, 4);
        x.flood(2, true);
        cells("Promise 11: flooded", 0, x, 0, 1, 4);
        shape("Promise 11: flooded", 0, x, 10, 2, 0);
        Check.is("Promise 28: far to the sea", x.measure(0, 3, 0, 0), 4);
        x.flood(2, true);
        cells("Promise 11: flooded again", 0, x, 0, 1, 4);
        x.flood(2, false);
        cells("Promise 11: dry again", 0, x, 0, 2, 4);
        for (int cell = 0; cell < 5; cell++) {
            x.flood(cell, true);
        }
        cells("Promise 11: all is carried to the other", 0, x, 5);
        Check.is("Promise 16: with its dots", x.dots(1, 0, 0), 3);
    }

    private static void floodOfNoZone() {
        DotSpreader x = Check.map(MAP);
        cells("Promise 11: dry", 0, x, 0, 2, 4);
        Check.is("Promise 28: no sea", x.measure(4, 3, 0, 0), -1);
        Check.is("Promise 11: of no zone", x.flood(9, true), true);
        cells("Promise 11: the dots stay", 0, x, 0, 2, 4);
        Check.is("Promise 28: sea beside it", x.measure(4, 3, 0, 0), 1);
        Check.is("Promise 7: a shore", x.zone(0, 3), 1);
        Check.is("Promise 44: one cell of sea", x.count(4), 1);
        Check.is("Promise 44: three of no zone, not sea", x.count(6), 3);
    }

    // 120 of 300 go with two of five cells: a's 180 are a dot on the middle of its three cells, 80 are carried, so of b's
    // 200 are two dots, on 3 and on 5, which is farthest from it.
    private static void move() {
        DotSpreader x = Check.map(MAP);
        cells("Promise 24: ahead of it", 0, x, 0, 2, 4);
        Check.is("Promise 24: two cells", x.move(0, 1, 0, 3, 4), 2);
        Check.is("Term AN EDGE: 120 of 300 go", x.lives(1, 0), 120);
        cells("Promise 24: behind it", 0, x, 1, 5, 3);
        shape("Promise 24: behind it", 0, x, 12, 3, 2);
        Check.answers("Promise 14: the order of the first", k -> x.order(0, k), 1, 0, 2, NONE);
        Check.answers("Promise 14: the order of the second", k -> x.order(1, k), 3, 5, 4, NONE);
    }

    private static void tries() {
        DotSpreader x = Check.map(MAP);
        Check.is("Promise 25: new on 1, 3 and 5", x.tries(0, 1, 0, 3, 4, 0), 3);
        cells("Promise 25: nothing stays", 0, x, 0, 2, 4);
        Check.is("Promise 25: again", x.tries(0, 1, 0, 3, 4, 0), 3);
        // 60 of 300 go: a's 240 are two dots, on 1 and 3; 40 and 60 are one of b's, on 4, where one of a's was.
        Check.is("Promise 25: another edge, new on 1 and 3", x.tries(0, 1, 0, 4, 4, 0), 2);
        Check.answers("Promise 14: the order stays", k -> x.order(0, k), 2, 0, 4, 1, 3, NONE);
        Check.answers("Promise 14: the other's too", k -> x.order(1, k), 5, NONE);
    }

    private static void otherMap() {
        DotSpreader x = Check.map(MAP);
        cells("Promise 4: ahead of it", 0, x, 0, 2, 4);
        Check.feed(x, "size 3 4;zone a people 300;row a 3:0-2;");
        x.read();
        cells("Promise 4: behind it", 0, x, 9, 10, 11);
        shape("Promise 4: behind it", 0, x, 2, 2, 0);
        Check.feed(x, MAP);
        x.read();
        cells("Promise 4: the first once more", 0, x, 0, 2, 4);
    }

    // Three in a bend: 0 and 1 side by side, 5 below 0.
    private static DotSpreader bend() {
        return Check.map("size 5 2;zone a people 900;row a 0:0-1;row a 1:0-0;");
    }

    private static void inTurn() {
        DotSpreader x = bend();
        for (int round = 0; round < 2; round++) {
            Check.is("Promise 35: corners", x.hull(0, NONE), 3);
            Check.is("Promise 32: kept by 2", x.thinned(0, 2, NONE), 1);
            Check.is("Promise 33: stops", x.tour(0, NONE), 3);
            Check.is("Promise 32: kept by 1", x.thinned(0, 1, NONE), 3);
            Check.is("Promise 34: way", x.way(0), 3);
            Check.is("Promise 36: area", x.area(0), 1);
            Check.is("Promise 32: kept by 0", x.thinned(0, 0, 2), 5);
            Check.answers("Promise 35: its corners", k -> x.hull(0, k), 0, 1, 5, NONE);
            Check.answers("Promise 33: its stops", k -> x.tour(0, k), 0, 1, 5, NONE);
        }
    }

    private static void areaFirst() {
        Check.is("Promise 36: area, ahead of any hull", bend().area(0), 1);
        Check.is("Promise 34: way, ahead of any tour", bend().way(0), 3);
        DotSpreader x = bend();
        x.tour(0, 0);
        Check.is("Promise 36: area behind a tour", x.area(0), 1);
        DotSpreader y = bend();
        y.thinned(0, 2, 0);
        Check.is("Promise 36: area behind thinned", y.area(0), 1);
        DotSpreader z = bend();
        z.hull(0, 0);
        Check.is("Promise 34: way behind a hull", z.way(0), 3);
    }

    // 9 dots at level 0, 4 at 1, 2 at 2, 1 at 3, none at 4: on all three cells, on all three, on two, on the first.
    private static void levelsInTurn() {
        DotSpreader x = bend();
        x.factor(2);
        for (int round = 0; round < 2; round++) {
            Check.answers("Promise 33: stops at level", l -> x.tour(l, NONE), 3, 3, 2, 1, 0);
            Check.answers("Promise 21: crowd of the first of the order at level", l -> x.crowd(0, NONE, l), 3, 2, 1, 1, 0);
            Check.answers("Promise 35: corners at level", l -> x.hull(l, NONE), 3, 3, 2, 1, 0);
            Check.answers("Promise 36: area at level", x::area, 1, 1, 0, 0, 0);
            Check.answers("Promise 22: apart at level", x::apart, 1, 1, 1, NONE, NONE);
            Check.answers("Promise 32: kept at level", l -> x.thinned(l, 1, NONE), 3, 3, 2, 1, 0);
        }
    }

    // Nine cells with dots, then the middle one alone, then it and the first, then none.
    private static void fewBehindMany() {
        DotSpreader x = Check.map("size 3 3;zone a people 900;row a 0:0-2;row a 1:0-2;row a 2:0-2;");
        shape("Promise 9: nine", 0, x, 8, 4, 8);
        x.people(0, 0, 100);
        cells("Promise 9: one alone behind nine", 0, x, 4);
        shape("Promise 9: one alone behind nine", 0, x, 0, 1, 0);
        Check.is("Promise 22: one alone behind nine", x.apart(0), NONE);
        x.people(0, 0, 200);
        cells("Promise 9: two behind nine", 0, x, 0, 4);
        shape("Promise 9: two behind nine", 0, x, 2, 2, 0);
        x.people(0, 0, 99);
        cells("Promise 9: none behind nine", 0, x);
        shape("Promise 9: none behind nine", 0, x, 0, 0, 0);
        Check.is("Promise 37: none behind nine", x.middle(NONE, 0), NONE);
    }
}
