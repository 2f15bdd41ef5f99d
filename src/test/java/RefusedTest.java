import java.util.ArrayList;
import java.util.List;
import java.util.NoSuchElementException;

/**
 * Refused: each exception that a promise names, of several the one told first; that such a call changes nothing but the
 * TAPE and fault(), where a text is read; the answers NONE, 0 and false; what stays with another MAP.
 */
public final class RefusedTest {
    private static final int NONE = DotSpreader.NONE;
    private static final Class<IndexOutOfBoundsException> INDEX = IndexOutOfBoundsException.class;
    private static final Class<IllegalArgumentException> NUMBER = IllegalArgumentException.class;
    private static final Class<NoSuchElementException> MISSING = NoSuchElementException.class;

    // a a ~
    // b b b
    private static final String MAP = "size 3 2;groups 2;zone a people 55,7;zone bc people 46,99;row a 0:0-1;"
            + "row bc 1:0-2;sea 0:2-2;";
    // It waits on the TAPE while calls are refused.
    private static final String WAITING = "size 4 5;zone q people 8;";

    private interface Use {
        long of(DotSpreader x);
    }

    public static void main(String[] args) {
        wrongTexts();
        wrongTextAtFirst();
        wrongCells();
        wrongZones();
        wrongGroups();
        wrongLevels();
        wrongRowsAndColumns();
        wrongWhats();
        wrongNumbers();
        wrongEdges();
        cellAheadOfWhat();
        indexAheadOfNumber();
        indexAheadOfEdge();
        indexAheadOfMeasure();
        measureAheadOfNumber();
        answersNone();
        answersZero();
        answersFalse();
        falseAndNoneChangeNothing();
        triedAndJoinedChangeNothing();
        staysWithAnotherMap();
        doesNotStayWithAnotherMap();
        Check.done("RefusedTest");
    }

    /** The map with a unit and a factor, a zone written, a fault of an earlier text, another text waiting. */
    private static DotSpreader used() {
        DotSpreader x = new DotSpreader();
        Check.feed(x, MAP);
        x.read();
        x.unit(10);
        x.factor(2);
        x.write(1);
        Check.feed(x, "size 99 2;");
        try {
            x.read();
        } catch (IllegalArgumentException e) {
            Check.is("its fault", x.fault(), 5);
        }
        Check.feed(x, WAITING);
        return x;
    }

    // ---- what there is, by all that can be asked ----

    private static List<Long> state(DotSpreader x) {
        List<Long> found = new ArrayList<>();
        for (int what = 0; what < 11; what++) {
            found.add((long) x.count(what));
        }
        found.add((long) x.fault());
        for (int zone = 0; zone < x.count(2); zone++) {
            addZone(found, x, zone);
        }
        for (int cell = 0; cell < x.count(0) * x.count(1); cell++) {
            found.add((long) x.cell(cell, 0));
            found.add((long) x.cell(cell, 1));
            found.add((long) x.stands(cell));
            found.add((long) x.part(cell));
            found.add((long) x.crowd(cell, NONE, 0));
        }
        for (int level = 0; level < 2; level++) {
            found.add((long) x.all(NONE, level));
            found.add((long) x.way(level));
            found.add((long) x.area(level));
        }
        for (int k = 0; k < x.count(9); k++) {
            found.add((long) x.octet(k));
        }
        return found;
    }

    private static void addZone(List<Long> found, DotSpreader x, int zone) {
        found.add((long) x.name(zone, 0));
        found.add((long) x.name(zone, 1));
        found.add((long) x.order(zone, 0));
        for (int what = 0; what < 6; what++) {
            found.add((long) x.zone(zone, what));
        }
        for (int group = 0; group < x.count(3); group++) {
            found.add((long) x.lives(zone, group));
            found.add((long) x.dots(zone, group, 0));
            found.add((long) x.carried(zone, group, 1));
        }
    }

    /** The TAPE is asked last, as that uses it up. */
    private static void tapeWaits(String what, DotSpreader x) {
        Check.is(what + ": the TAPE is no longer", x.end(WAITING.length() + 1), false);
        Check.is(what + ": nor shorter", x.end(WAITING.length()), true);
        Check.is(what + ": it is the same text", x.read(), 1);
        Check.is(what + ": with its size", x.count(0) * 10 + x.count(1), 45);
        Check.is(what + ": with its people", x.lives(0, 0), 8);
    }

    private static void changesNothing(String what, Use call) {
        DotSpreader x = used();
        List<Long> before = state(x);
        call.of(x);
        Check.is(what + " changes nothing", state(x).toString(), before.toString());
        tapeWaits(what, x);
    }

    private static void refused(String what, Class<? extends RuntimeException> due, Use call) {
        changesNothing(what, x -> {
            Check.refuses(what, due, () -> call.of(x));
            return 0;
        });
    }

    // ---- read() ----

    private static void wrongTexts() {
        String[] marked = {"^", "size 5 5;zone r people 1;^x", "size 5 5;groups 3;zone r people 1,2,3;row r 0:0-^5;",
            "size 2 2;zone r people 1;sea 0:0-1^", "size 24 16;zone r people 1;row r 15:0-23;sea 15:^24-24;", "^" + MAP.substring(9)};
        for (String mark : marked) {
            String text = mark.replace("^", "");
            DotSpreader x = used();
            List<Long> before = state(x);
            x.end(0);
            Check.feed(x, text);
            Check.refusesNumber("Promise 4: the text is wrong, " + text, x::read);
            List<Long> after = state(x);
            Check.is("Promise 4: fault() is told", after.get(11), mark.indexOf('^'));
            after.set(11, before.get(11));
            Check.is("Promise 4: nothing else changes", after.toString(), before.toString());
            Check.is("Promise 4: the TAPE is used up", x.end(1), false);
            Check.is("Promise 2: twenty bytes are all", x.feed(0, 0, 0, 0, 0), 20);
        }
    }

    private static void wrongTextAtFirst() {
        DotSpreader x = new DotSpreader();
        Check.feed(x, "size 5 5;groups 3;zone r people 1,2,3;row r 0:0-4");
        Check.refusesNumber("Promise 4: wrong at its end", x::read);
        Check.answers("Promise 1: no cells still", x::count, 0, 0, 0, 1, 0, 0, 0, 100, 5, 0, 0);
        Check.refusesIndex("Promise 6: no cell still", () -> x.cell(0, 0));
        Check.refusesIndex("Promise 18: one group still", () -> x.left(1, 0));
    }

    // ---- each exception ----

    private static void wrongCells() {
        for (int cell : new int[] {-1, 6}) {
            refused("Promise 6: no cell " + cell, INDEX, x -> x.cell(cell, 0));
            refused("Promise 11: no cell " + cell, INDEX, x -> x.flood(cell, true) ? 1 : 0);
            refused("Promise 15: no cell " + cell, INDEX, x -> x.stands(cell));
            refused("Promise 21: no cell " + cell, INDEX, x -> x.crowd(cell, 0, 0));
            refused("Promise 27: no cell " + cell, INDEX, x -> x.part(cell));
            refused("Promise 28: no cell " + cell, INDEX, x -> x.measure(cell, 0, 0, 0));
            refused("Promise 30: no cell " + cell, INDEX, x -> x.nearest(cell, 0));
            refused("Promise 31: no cell " + cell, INDEX, x -> x.served(cell, 0));
        }
    }

    private static void wrongZones() {
        for (int zone : new int[] {-1, 2}) {
            refused("Promise 7: no zone " + zone, INDEX, x -> x.zone(zone, 0));
            refused("Promise 8: no zone " + zone, INDEX, x -> x.name(zone, 0));
            refused("Promise 9: no zone " + zone, INDEX, x -> x.people(zone, 0, 1));
            refused("Promise 10: no zone " + zone, INDEX, x -> x.lives(zone, 0));
            refused("Promise 14: no zone " + zone, INDEX, x -> x.order(zone, 0));
            refused("Promise 16: no zone " + zone, INDEX, x -> x.dots(zone, 0, 0));
            refused("Promise 17: no zone " + zone, INDEX, x -> x.carried(zone, 0, 0));
            refused("Promise 20: no zone " + zone, INDEX, x -> x.dot(zone, 0, 0, 0));
            refused("Promise 23: no zone " + zone, INDEX, x -> x.off(zone, 0));
            refused("Promise 24: no zone " + zone, INDEX, x -> x.move(zone, 0, 0, 0, 0));
            refused("Promise 24: no other zone " + zone, INDEX, x -> x.move(0, zone, 0, 0, 0));
            refused("Promise 25: no zone " + zone, INDEX, x -> x.tries(zone, 0, 0, 0, 0, 0));
            refused("Promise 25: no other zone " + zone, INDEX, x -> x.tries(0, zone, 0, 0, 0, 0));
            refused("Promise 26: no zone " + zone, INDEX, x -> x.run(zone, 0, 0, true));
            refused("Promise 39: no zone " + zone, INDEX, x -> x.joined(zone, 0, 0));
            refused("Promise 39: no other zone " + zone, INDEX, x -> x.joined(0, zone, 0));
            refused("Promise 42: no zone " + zone, INDEX, x -> x.write(zone));
        }
    }

    private static void wrongGroups() {
        for (int group : new int[] {-2, -1, 2}) {
            refused("Promise 9: no group " + group, INDEX, x -> x.people(0, group, 1));
            refused("Promise 10: no group " + group, INDEX, x -> x.lives(0, group));
            refused("Promise 16: no group " + group, INDEX, x -> x.dots(0, group, 0));
            refused("Promise 17: no group " + group, INDEX, x -> x.carried(0, group, 0));
            refused("Promise 18: no group " + group, INDEX, x -> x.left(group, 0));
            refused("Promise 20: no group " + group, INDEX, x -> x.dot(0, group, 0, 0));
            refused("Promise 23: no group " + group, INDEX, x -> x.off(0, group));
        }
        for (int group : new int[] {-2, 2}) {
            refused("Promise 19: no group " + group, INDEX, x -> x.all(group, 0));
            refused("Promise 21: no group " + group, INDEX, x -> x.crowd(0, group, 0));
            refused("Promise 37: no group " + group, INDEX, x -> x.middle(group, 0));
        }
    }

    private static void wrongLevels() {
        for (int level : new int[] {-1, 5}) {
            refused("Promise 16: no level " + level, INDEX, x -> x.dots(0, 0, level));
            refused("Promise 17: no level " + level, INDEX, x -> x.carried(0, 0, level));
            refused("Promise 18: no level " + level, INDEX, x -> x.left(0, level));
            refused("Promise 19: no level " + level, INDEX, x -> x.all(NONE, level));
            refused("Promise 20: no level " + level, INDEX, x -> x.dot(0, 0, level, 0));
            refused("Promise 21: no level " + level, INDEX, x -> x.crowd(0, NONE, level));
            refused("Promise 22: no level " + level, INDEX, x -> x.apart(level));
            refused("Promise 25: no level " + level, INDEX, x -> x.tries(0, 1, 0, 0, 0, level));
            refused("Promise 28: no level " + level, INDEX, x -> x.measure(0, 0, level, 0));
            refused("Promise 29: no level " + level, INDEX, x -> x.best(0, level, 0));
            refused("Promise 30: no level " + level, INDEX, x -> x.nearest(0, level));
            refused("Promise 31: no level " + level, INDEX, x -> x.served(0, level));
            refused("Promise 32: no level " + level, INDEX, x -> x.thinned(level, 0, NONE));
            refused("Promise 33: no level " + level, INDEX, x -> x.tour(level, NONE));
            refused("Promise 34: no level " + level, INDEX, x -> x.way(level));
            refused("Promise 35: no level " + level, INDEX, x -> x.hull(level, NONE));
            refused("Promise 36: no level " + level, INDEX, x -> x.area(level));
            refused("Promise 37: no level " + level, INDEX, x -> x.middle(NONE, level));
            refused("Promise 38: no level " + level, INDEX, x -> x.line(false, 0, level));
            refused("Promise 38: no level " + level, INDEX, x -> x.line(true, 0, level));
            refused("Promise 39: no level " + level, INDEX, x -> x.joined(0, 1, level));
        }
    }

    private static void wrongRowsAndColumns() {
        for (int row : new int[] {-1, 2}) {
            refused("Promise 24: no row " + row, INDEX, x -> x.move(0, 1, row, 0, 0));
            refused("Promise 25: no row " + row, INDEX, x -> x.tries(0, 1, row, 0, 0, 0));
            refused("Promise 26: no row " + row, INDEX, x -> x.run(0, row, NONE, true));
            refused("Promise 38: no row " + row, INDEX, x -> x.line(false, row, 0));
        }
        refused("Promise 38: no column -1", INDEX, x -> x.line(true, -1, 0));
        refused("Promise 38: no column 3", INDEX, x -> x.line(true, 3, 0));
        DotSpreader wide = Check.map(MAP);
        Check.is("Promise 38: column 2, which is no row", wide.line(true, 2, 0), 0);
    }

    private static void wrongWhats() {
        for (int what : new int[] {-1, 2}) {
            refused("Promise 6: another what " + what, MISSING, x -> x.cell(5, what));
        }
        for (int what : new int[] {-1, 6}) {
            refused("Promise 7: another what " + what, MISSING, x -> x.zone(1, what));
        }
        for (int measure : new int[] {-1, 5}) {
            refused("Promise 28: no measure " + measure, MISSING, x -> x.measure(0, measure, 0, 0));
            refused("Promise 29: no measure " + measure, MISSING, x -> x.best(measure, 0, 0));
        }
        // 55 by 10 are 5 dots.
        for (int k : new int[] {-1, 5, Integer.MAX_VALUE}) {
            refused("Promise 20: no dot " + k, MISSING, x -> x.dot(0, 0, 0, k));
        }
        refused("Promise 20: no dot at all", MISSING, x -> x.dot(0, 1, 0, 0));
    }

    private static void wrongNumbers() {
        for (int n : new int[] {-1, 100000}) {
            refused("Promise 9: people " + n, NUMBER, x -> x.people(0, 0, n));
        }
        for (int n : new int[] {0, 10000}) {
            refused("Promise 12: unit " + n, NUMBER, x -> x.unit(n));
        }
        for (int n : new int[] {1, 11}) {
            refused("Promise 13: factor " + n, NUMBER, x -> x.factor(n));
        }
        for (int n : new int[] {-1, 1000}) {
            refused("Promise 28: n " + n, NUMBER, x -> x.measure(0, 1, 0, n));
            refused("Promise 28: n " + n + " for another measure", NUMBER, x -> x.measure(0, 4, 0, n));
            refused("Promise 29: n " + n, NUMBER, x -> x.best(1, 0, n));
            refused("Promise 32: n " + n, NUMBER, x -> x.thinned(0, n, NONE));
        }
    }

    private static void wrongEdges() {
        refused("Promise 24: both are one zone", NUMBER, x -> x.move(0, 0, 0, 0, 1));
        refused("Promise 24: no column below 0", NUMBER, x -> x.move(0, 1, 0, -1, 1));
        refused("Promise 24: no column 3", NUMBER, x -> x.move(0, 1, 0, 0, 3));
        refused("Promise 24: the second column below the first", NUMBER, x -> x.move(0, 1, 0, 1, 0));
        refused("Promise 25: both are one zone", NUMBER, x -> x.tries(1, 1, 0, 0, 1, 0));
        refused("Promise 25: no column below 0", NUMBER, x -> x.tries(0, 1, 0, -1, 1, 0));
        refused("Promise 25: no column 3", NUMBER, x -> x.tries(0, 1, 0, 0, 3, 0));
        refused("Promise 25: the second column below the first", NUMBER, x -> x.tries(0, 1, 0, 1, 0, 0));
        refused("Promise 39: both are one", NUMBER, x -> x.joined(0, 0, 0));
        refused("Promise 39: both are the other", NUMBER, x -> x.joined(1, 1, 4));
    }

    // ---- of several exceptions the one told first ----

    private static void cellAheadOfWhat() {
        refused("Promise 6: no cell, another what", INDEX, x -> x.cell(6, 2));
        refused("Promise 7: no zone, another what", INDEX, x -> x.zone(2, 6));
        refused("Promise 20: no zone, no dot", INDEX, x -> x.dot(2, 0, 0, -1));
        refused("Promise 20: no group, no dot", INDEX, x -> x.dot(0, 2, 0, -1));
        refused("Promise 20: no level, no dot", INDEX, x -> x.dot(0, 0, 5, -1));
    }

    private static void indexAheadOfNumber() {
        refused("Promise 9: no zone, no number", INDEX, x -> x.people(2, 0, -1));
        refused("Promise 9: no group, no number", INDEX, x -> x.people(0, 2, 100000));
        refused("Promise 32: no level, no number", INDEX, x -> x.thinned(5, 1000, NONE));
        refused("Promise 39: no zones, both are one", INDEX, x -> x.joined(2, 2, 0));
        refused("Promise 39: no level, both are one", INDEX, x -> x.joined(0, 0, 5));
    }

    private static void indexAheadOfEdge() {
        refused("Promise 24: no zones, both are one", INDEX, x -> x.move(2, 2, 0, 0, 0));
        refused("Promise 24: no row, both are one", INDEX, x -> x.move(0, 0, 2, 0, 0));
        refused("Promise 24: no zone, no run", INDEX, x -> x.move(-1, 0, 0, 1, 0));
        refused("Promise 24: no other zone, no run", INDEX, x -> x.move(0, -1, 0, 1, 0));
        refused("Promise 24: no row, no run", INDEX, x -> x.move(0, 1, -1, 0, 3));
        refused("Promise 25: no zones, both are one", INDEX, x -> x.tries(2, 2, 0, 0, 0, 0));
        refused("Promise 25: no row, both are one", INDEX, x -> x.tries(0, 0, 2, 0, 0, 0));
        refused("Promise 25: no level, both are one", INDEX, x -> x.tries(0, 0, 0, 0, 0, 5));
        refused("Promise 25: no level, no run", INDEX, x -> x.tries(0, 1, 0, 1, 0, -1));
        refused("Promise 25: no row, no run", INDEX, x -> x.tries(0, 1, -1, 0, 3, 0));
    }

    private static void indexAheadOfMeasure() {
        refused("Promise 28: no cell, no measure", INDEX, x -> x.measure(6, 5, 0, 0));
        refused("Promise 28: no level, no measure", INDEX, x -> x.measure(0, 5, 5, 0));
        refused("Promise 28: no cell, no n", INDEX, x -> x.measure(6, 1, 0, 1000));
        refused("Promise 28: no level, no n", INDEX, x -> x.measure(0, 1, 5, 1000));
        refused("Promise 29: no level, no measure", INDEX, x -> x.best(5, 5, 0));
        refused("Promise 29: no level, no n", INDEX, x -> x.best(1, 5, 1000));
    }

    private static void measureAheadOfNumber() {
        refused("Promise 28: no measure, no n", MISSING, x -> x.measure(0, 5, 0, 1000));
        refused("Promise 28: no measure below 0, no n", MISSING, x -> x.measure(0, -1, 0, -1));
        refused("Promise 29: no measure, no n", MISSING, x -> x.best(5, 0, 1000));
        refused("Promise 29: no measure below 0, no n", MISSING, x -> x.best(-1, 0, -1));
    }

    // ---- the answers NONE, 0 and false ----

    // By 10 and 2: a has 5 dots of the first group, bc 5 of the first and 10 of the second; at level 4 are none.
    private static void answersNone() {
        DotSpreader x = used();
        Check.is("Promise 6: of no zone", Check.map("size 2 2;").cell(0, 0), NONE);
        Check.is("Promise 8: behind the name", x.name(1, 2), NONE);
        Check.is("Promise 14: behind the order", x.order(0, 2), NONE);
        Check.is("Promise 15: in none", x.stands(2), NONE);
        Check.is("Promise 22: there are not two", x.apart(4), NONE);
        Check.is("Promise 26: no such run, first", x.run(0, 0, 1, false), NONE);
        Check.is("Promise 26: no such run, last", x.run(0, 0, 1, true), NONE);
        Check.is("Promise 27: in none", x.part(2), NONE);
        Check.is("Promise 30: without dots", x.nearest(0, 4), NONE);
        Check.is("Promise 32: no such", x.thinned(0, 0, 5), NONE);
        Check.is("Promise 33: no such", x.tour(0, 5), NONE);
        Check.is("Promise 35: no such", x.hull(0, 5), NONE);
        Check.is("Promise 37: without dots", x.middle(NONE, 4), NONE);
        Check.is("Promise 40: none", x.fits(-1), NONE);
        Check.is("Promise 41: none", x.scale(-1), NONE);
        Check.is("Promise 43: none", x.octet(x.count(9)), NONE);
        Check.is("Promise 44: another what", x.count(11), NONE);
        Check.is("Promise 44: another what", x.count(-1), NONE);
        x.flood(0, true);
        x.flood(1, true);
        Check.is("Promise 29: of land alone", x.best(0, 0, 0), 3);
        for (int cell = 3; cell < 6; cell++) {
            x.flood(cell, true);
        }
        Check.is("Promise 29: without land", x.best(0, 0, 0), NONE);
    }

    private static void answersZero() {
        DotSpreader x = used();
        Check.is("Promise 6: no sea", x.cell(0, 1), 0);
        Check.is("Promise 19: no dots", x.all(NONE, 4), 0);
        Check.is("Promise 24: no cells of the first in the run", x.move(0, 1, 1, 0, 2), 0);
        Check.is("Promise 25: nothing is new then", x.tries(0, 1, 1, 0, 2, 0), 0);
        Check.is("Promise 26: no runs in the row", x.run(0, 1, NONE, true), 0);
        Check.is("Promise 31: the sea has no dots", x.served(2, 0), 0);
        Check.is("Promise 31: no dots at the level", x.served(0, 4), 0);
        Check.is("Promise 32: none kept", x.thinned(4, 0, NONE), 0);
        Check.is("Promise 33: no stops", x.tour(4, NONE), 0);
        Check.is("Promise 34: no way", x.way(4), 0);
        Check.is("Promise 35: no corners", x.hull(4, NONE), 0);
        Check.is("Promise 36: no area", x.area(4), 0);
        Check.is("Promise 38: nobody", x.line(false, 0, 4), 0);
    }

    private static void answersFalse() {
        DotSpreader x = used();
        Check.is("Promise 3: it has fewer", x.end(WAITING.length() + 1), false);
        Check.is("Promise 3: below 0", x.end(-1), false);
        Check.is("Promise 11: sea already", x.flood(2, true), false);
        Check.is("Promise 11: no sea already", x.flood(0, false), false);
        Check.is("Promise 11: new", x.flood(0, true), true);
        Check.is("Promise 11: new back", x.flood(0, false), true);
    }

    private static void falseAndNoneChangeNothing() {
        changesNothing("Promise 3: false", x -> x.end(-1) || x.end(400) ? 1 : 0);
        changesNothing("Promise 11: false", x -> x.flood(2, true) || x.flood(0, false) ? 1 : 0);
        changesNothing("Promise 24: 0", x -> x.move(0, 1, 1, 0, 2));
        changesNothing("Promise 40: a unit is asked", x -> x.fits(3));
        changesNothing("Promise 41: a level is asked", x -> x.scale(3));
    }

    private static void triedAndJoinedChangeNothing() {
        for (int level = 0; level < 5; level++) {
            int l = level;
            changesNothing("Promise 25: nothing stays, level " + l, x -> x.tries(1, 0, 1, 0, 1, l));
            changesNothing("Promise 39: nothing stays, level " + l, x -> x.joined(0, 1, l));
            changesNothing("Promise 39: nothing stays, level " + l, x -> x.joined(1, 0, l));
        }
    }

    // ---- another MAP ----

    private static void staysWithAnotherMap() {
        DotSpreader x = used();
        Check.is("Promise 4: another map", x.read(), 1);
        Check.is("Term UNIT: stays with another map", x.count(7), 10);
        Check.is("Term FACTOR: stays with another map", x.count(8), 2);
        Check.is("Promise 43: what was written latest", Check.written(x), "row bc 1: 0-2;");
        Check.is("Promise 44: its bytes", x.count(9), 14);
        Check.feed(x, MAP);
        x.read();
        Check.is("Term UNIT: dots by it", x.dots(0, 0, 0), 5);
        Check.is("Term FACTOR: dots by it", x.dots(0, 0, 1), 2);
    }

    private static void doesNotStayWithAnotherMap() {
        DotSpreader x = used();
        x.flood(0, true);
        x.people(1, 0, 99999);
        x.tour(0, 0);
        x.order(1, 0);
        x.read();
        Check.answers("Promise 4: in place of the one before", x::count, 4, 5, 1, 1, 0, 0, 20, 10, 2, 14, 8);
        Check.refusesIndex("Promise 4: one zone", () -> x.lives(1, 0));
        Check.refusesIndex("Promise 4: one group, 1 without", () -> x.lives(0, 1));
        for (int cell = 0; cell < 20; cell++) {
            Check.is("Promise 4: no zone of cell " + cell, x.cell(cell, 0), NONE);
            Check.is("Promise 4: no sea at cell " + cell, x.cell(cell, 1), 0);
            Check.is("Promise 4: no order of cell " + cell, x.stands(cell), NONE);
            Check.is("Promise 4: no crowd on cell " + cell, x.crowd(cell, NONE, 0), 0);
        }
        Check.is("Promise 4: no order", x.order(0, 0), NONE);
        Check.is("Promise 4: no tour", x.tour(0, NONE), 0);
        Check.is("Promise 4: another name", x.name(0, 0), 'q');
        Check.is("Promise 4: which is shorter", x.name(0, 1), NONE);
        Check.feed(x, MAP);
        Check.is("Promise 4: the same once more", x.read(), 2);
        Check.is("Promise 4: with its people", x.lives(1, 0), 46);
        Check.is("Promise 4: with its land", x.zone(0, 1), 2);
    }
}
