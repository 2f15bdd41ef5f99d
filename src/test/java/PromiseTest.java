import java.util.NoSuchElementException;

/** Promises 1 and 6 to 44, each by answers worked out by hand: ordinary inputs, edges, wrong inputs. */
public final class PromiseTest {
    private static final int NONE = DotSpreader.NONE;
    private static final Class<IndexOutOfBoundsException> INDEX = IndexOutOfBoundsException.class;
    private static final Class<IllegalArgumentException> ILLEGAL = IllegalArgumentException.class;
    private static final Class<NoSuchElementException> MISSING = NoSuchElementException.class;
    private static final int[] OUTSIDE = {-2, -1, 99, 400, Integer.MAX_VALUE, Integer.MIN_VALUE};

    // Zone b has no land; unit 10 and factor 2 are told by scales().
    private static final String SCALES = "size 3 2;groups 2;zone a people 55,7;zone b people 0,99;"
            + "zone c people 46,5;row a 0:0-2;row c 1:0-2;";
    // . a a ~ b      ~ is sea; A, B are cells of zones that are sea
    // a a A ~ b
    // . . a b b
    private static final String COAST = "size 5 3;zone a people 500;zone bcdefg people 40;row a 0:1-2;row a 1:0-2;"
            + "row a 2:2-2;row bcdefg 0:4-4;row bcdefg 1:4-4;row bcdefg 2:3-4;sea 0:3-3;sea 1:2-3;";
    private static final String EDGE = "size 4 2;groups 2;zone a people 100,99999;zone b people 50,99000;"
            + "row a 0:0-3;row b 1:0-3;sea 0:3-3;";

    public static void main(String[] args) {
        newObject();
        cellsAndZones();
        sides();
        peopleAndFlood();
        unitAndFactor();
        orders();
        scales();
        places();
        crowdsAndGaps();
        moves();
        tried();
        runs();
        parts();
        measures();
        bests();
        nearestAndServed();
        thinned();
        tours();
        hulls();
        middlesAndLines();
        joined();
        fitsAndScale();
        writing();
        counts();
        newMaps();
        Check.done("PromiseTest");
    }

    private static DotSpreader scaled() {
        DotSpreader x = Check.map(SCALES);
        x.unit(10);
        x.factor(2);
        return x;
    }

    // Every cell of these rows has a dot.
    private static DotSpreader full(String rows) {
        return Check.map("size 5 5;zone a people 9999;" + rows);
    }

    private static void refusesOutside(String what, Check.Indexed call) {
        for (int n : OUTSIDE) {
            Check.refuses(what + " of " + n, INDEX, () -> call.at(n));
        }
    }

    private static void refusesOutsideButNone(String what, Check.Indexed call) {
        for (int n : OUTSIDE) {
            if (n != NONE) {
                Check.refuses(what + " of " + n, INDEX, () -> call.at(n));
            }
        }
    }

    private static void newObject() {
        DotSpreader x = new DotSpreader();
        Check.answers("count at first", x::count, 0, 0, 0, 1, 0, 0, 0, 100, 5, 0, 0, NONE);
        Check.refuses("cell", INDEX, () -> x.cell(0, 0));
        Check.refuses("cell with a wrong what", INDEX, () -> x.cell(0, 7));
        Check.refuses("zone", INDEX, () -> x.zone(0, 0));
        Check.refuses("line of a row", INDEX, () -> x.line(false, 0, 0));
        Check.refuses("line of a column", INDEX, () -> x.line(true, 0, 0));
        Check.refuses("joined", INDEX, () -> x.joined(0, 0, 0));
        Check.is("left", x.left(0, 4), 0);
        Check.is("all", x.all(NONE, 4), 0);
        Check.is("apart", x.apart(0), NONE);
        Check.is("best", x.best(3, 0, 0), NONE);
        Check.is("thinned", x.thinned(0, 0, NONE), 0);
        Check.is("tour", x.tour(0, NONE), 0);
        Check.is("tour 0", x.tour(0, 0), NONE);
        Check.is("way", x.way(0), 0);
        Check.is("hull", x.hull(0, NONE), 0);
        Check.is("hull 0", x.hull(0, 0), NONE);
        Check.is("area", x.area(0), 0);
        Check.is("middle", x.middle(NONE, 0), NONE);
        Check.is("fits", x.fits(0), 1);
        Check.is("scale", x.scale(0), 0);
        Check.is("octet", x.octet(0), NONE);
        Check.is("fault", x.fault(), NONE);
    }

    private static void cellsAndZones() {
        DotSpreader x = Check.map(COAST);
        Check.answers("zone of cell", c -> x.cell(c, 0), NONE, 0, 0, NONE, 1, 0, 0, 0, NONE, 1, NONE, NONE, 0, 1, 1);
        Check.answers("sea of cell", c -> x.cell(c, 1), 0, 0, 0, 1, 0, 0, 0, 1, 1, 0, 0, 0, 0, 0, 0);
        refusesOutside("cell", c -> x.cell(c, 0));
        Check.refuses("cell 15", INDEX, () -> x.cell(15, 0));
        Check.refuses("cell what 2", MISSING, () -> x.cell(14, 2));
        Check.refuses("cell what -1", MISSING, () -> x.cell(14, -1));
        Check.refuses("no cell ahead of another what", INDEX, () -> x.cell(15, 2));
        Check.answers("zone a", w -> x.zone(0, w), 6, 5, 2, 4, 1, 3);
        Check.answers("zone b", w -> x.zone(1, w), 4, 4, 1, 3, 1, 3);
        refusesOutside("zone", z -> x.zone(z, 0));
        Check.refuses("zone 2", INDEX, () -> x.zone(2, 0));
        Check.refuses("zone what 6", MISSING, () -> x.zone(1, 6));
        Check.refuses("zone what -1", MISSING, () -> x.zone(1, -1));
        Check.refuses("no zone ahead of another what", INDEX, () -> x.zone(2, 6));
        Check.answers("name a", k -> x.name(0, k), 'a', NONE, NONE);
        Check.answers("name b", k -> x.name(1, k), 'b', 'c', 'd', 'e', 'f', 'g', NONE);
        Check.is("letter -1", x.name(1, -1), NONE);
        Check.is("letter far behind", x.name(0, Integer.MAX_VALUE), NONE);
        refusesOutside("name", z -> x.name(z, 0));
    }

    private static void sides() {
        DotSpreader x = Check.map("size 3 3;zone a people 1;zone b people 1;row a 0:0-2;row a 1:0-0,2-2;row a 2:0-2;"
                + "row b 1:1-1;");
        Check.is("border on four sides", x.zone(1, 4), 4);
        Check.is("border of those round it", x.zone(0, 4), 4);
        for (int cell : new int[] {1, 3, 5, 7}) {
            x.flood(cell, true);
            Check.is("shore on the side of " + cell, x.zone(1, 3), 1);
            Check.is("border on the others", x.zone(1, 4), 3);
            Check.is("shore of those round it", x.zone(0, 3), 2);
            x.flood(cell, false);
        }
        x.flood(0, true);
        Check.is("a corner is no side", x.zone(1, 3), 0);
        DotSpreader corner = Check.map("size 2 2;zone a people 1;zone b people 1;row a 0:0-0;row b 0:1-1;row b 1:0-0;");
        Check.is("border of cell 0", corner.zone(0, 4), 2);
        Check.is("border with cell 0", corner.zone(1, 4), 2);
        corner.flood(1, true);
        corner.flood(2, true);
        Check.is("shore of cell 0", corner.zone(0, 3), 2);
        DotSpreader alone = Check.map("size 2 2;zone a people 1;row a 0:0-0;");
        Check.is("the edge and cells of no zone are no shore", alone.zone(0, 3), 0);
        Check.is("nor a border", alone.zone(0, 4), 0);
    }

    private static void peopleAndFlood() {
        DotSpreader x = Check.map(SCALES);
        Check.is("lives", x.lives(1, 1), 99);
        Check.is("people", x.people(1, 1, 0), 99);
        Check.is("lives then", x.lives(1, 1), 0);
        Check.is("people once more", x.people(1, 1, 99999), 0);
        Check.refuses("people 100000", ILLEGAL, () -> x.people(1, 1, 100000));
        Check.refuses("people -1", ILLEGAL, () -> x.people(1, 1, -1));
        Check.refuses("no group ahead of no number", INDEX, () -> x.people(1, 2, -1));
        Check.is("lives after refusals", x.lives(1, 1), 99999);
        refusesOutside("people, zone", z -> x.people(z, 0, 1));
        refusesOutside("people, group", g -> x.people(0, g, 1));
        refusesOutside("lives, zone", z -> x.lives(z, 0));
        refusesOutside("lives, group", g -> x.lives(0, g));
        Check.is("dots of more people", x.dots(2, 1, 0), 1000);
        Check.is("flood", x.flood(3, true), true);
        Check.is("flood again", x.flood(3, true), false);
        Check.is("land then", x.zone(2, 1), 2);
        Check.is("its zone stays", x.cell(3, 0), 2);
        Check.is("not any more", x.flood(3, false), true);
        Check.is("not any more, again", x.flood(3, false), false);
        refusesOutside("flood", c -> x.flood(c, true) ? 1 : 0);
        Check.refuses("flood 6", INDEX, () -> x.flood(6, true) ? 1 : 0);
    }

    private static void unitAndFactor() {
        DotSpreader x = Check.map(SCALES);
        Check.is("unit", x.unit(9999), 100);
        Check.is("unit 1", x.unit(1), 9999);
        Check.refuses("unit 0", ILLEGAL, () -> x.unit(0));
        Check.refuses("unit 10000", ILLEGAL, () -> x.unit(10000));
        Check.refuses("unit -1", ILLEGAL, () -> x.unit(-1));
        Check.is("unit after refusals", x.count(7), 1);
        Check.is("dots by it", x.dots(0, 0, 0), 55);
        Check.is("factor", x.factor(10), 5);
        Check.is("factor 2", x.factor(2), 10);
        Check.refuses("factor 1", ILLEGAL, () -> x.factor(1));
        Check.refuses("factor 11", ILLEGAL, () -> x.factor(11));
        Check.is("factor after refusals", x.count(8), 2);
        Check.is("dots by it", x.dots(0, 0, 1), 27);
    }

    private static void orders() {
        DotSpreader x = Check.map("size 5 2;zone a people 1000;zone b people 1;row a 0:0-4;");
        Check.answers("order of a line", k -> x.order(0, k), 2, 0, 4, 1, 3, NONE);
        Check.answers("stands", x::stands, 1, 3, 0, 4, 2, NONE, NONE);
        Check.is("order -1", x.order(0, -1), NONE);
        Check.is("order of no land", x.order(1, 0), NONE);
        Check.is("order far behind", x.order(0, Integer.MAX_VALUE), NONE);
        refusesOutside("order", z -> x.order(z, 0));
        refusesOutside("stands", x::stands);
        Check.refuses("stands 10", INDEX, () -> x.stands(10));
        x.flood(2, true);
        Check.answers("order without its middle", k -> x.order(0, k), 1, 4, 0, 3, NONE);
        Check.is("sea stands nowhere", x.stands(2), NONE);
        x.flood(2, false);
        Check.answers("order as it was", k -> x.order(0, k), 2, 0, 4, 1, 3, NONE);
        x.move(0, 1, 0, 3, 4);
        Check.answers("order of what is left", k -> x.order(0, k), 1, 0, 2, NONE);
        Check.answers("order of what came", k -> x.order(1, k), 3, 4, NONE);
    }

    private static void scales() {
        DotSpreader x = scaled();
        int[][] first = {{5, 0, 5}, {2, 0, 3}, {1, 0, 1}, {0, 0, 1}, {0, 0, 0}};
        int[][] second = {{0, 0, 11}, {0, 0, 5}, {0, 0, 2}, {0, 0, 1}, {0, 0, 0}};
        for (int level = 0; level < 5; level++) {
            int l = level;
            Check.answers("dots of group 0 at " + l, z -> x.dots(z, 0, l), first[l]);
            Check.answers("dots of group 1 at " + l, z -> x.dots(z, 1, l), second[l]);
        }
        Check.answers("carried of group 0 at 0", z -> x.carried(z, 0, 0), 0, 5, 5);
        Check.answers("carried of group 1 at 0", z -> x.carried(z, 1, 0), 0, 7, 106);
        Check.answers("carried of group 0 at 1", z -> x.carried(z, 0, 1), 0, 1, 1);
        Check.answers("carried of group 0 at 3", z -> x.carried(z, 0, 3), 0, 1, 1);
        Check.answers("left of group 0", l -> x.left(0, l), 1, 0, 1, 0, 1);
        Check.answers("left of group 1", l -> x.left(1, l), 1, 1, 1, 0, 1);
        Check.answers("all", l -> x.all(NONE, l), 21, 10, 4, 2, 0);
        Check.answers("all of group 1", l -> x.all(1, l), 11, 5, 2, 1, 0);
        Check.answers("off of group 0", z -> x.off(z, 0), -5, 0, 4);
        Check.answers("off of group 1", z -> x.off(z, 1), -7, -99, 105);
        refusesOutside("dots, zone", n -> x.dots(n, 0, 0));
        refusesOutside("dots, group", n -> x.dots(0, n, 0));
        refusesOutside("dots, level", n -> x.dots(0, 0, n));
        refusesOutside("carried, zone", n -> x.carried(n, 0, 0));
        refusesOutside("carried, group", n -> x.carried(0, n, 0));
        refusesOutside("carried, level", n -> x.carried(0, 0, n));
        refusesOutside("left, group", n -> x.left(n, 0));
        refusesOutside("left, level", n -> x.left(0, n));
        refusesOutsideButNone("all, group", n -> x.all(n, 0));
        refusesOutside("all, level", n -> x.all(NONE, n));
        refusesOutside("off, zone", n -> x.off(n, 0));
        refusesOutside("off, group", n -> x.off(0, n));
        Check.refuses("dots at level 5", INDEX, () -> x.dots(0, 0, 5));
    }

    private static void places() {
        DotSpreader x = scaled();
        Check.answers("dots of a", k -> x.dot(0, 0, 0, k), 1, 2, 0, 1, 2);
        Check.answers("dots of c, group 1", k -> x.dot(2, 1, 0, k), 3, 4, 5, 3, 4, 5, 3, 4, 5, 3, 4);
        Check.answers("dots of c, group 1, level 1", k -> x.dot(2, 1, 1, k), 3, 4, 5, 3, 4);
        Check.refuses("dot 11", MISSING, () -> x.dot(2, 1, 0, 11));
        Check.refuses("dot -1", MISSING, () -> x.dot(2, 1, 0, -1));
        Check.refuses("dot of no land", MISSING, () -> x.dot(1, 1, 0, 0));
        Check.refuses("dot far behind", MISSING, () -> x.dot(0, 0, 0, Integer.MAX_VALUE));
        Check.refuses("no level ahead of no dot", INDEX, () -> x.dot(2, 1, 5, 11));
        refusesOutside("dot, zone", n -> x.dot(n, 0, 0, 0));
        refusesOutside("dot, group", n -> x.dot(0, n, 0, 0));
        refusesOutside("dot, level", n -> x.dot(0, 0, n, 0));
        DotSpreader y = Check.map("size 4 2;groups 2;zone a people 9,5;row a 0:0-3;");
        y.unit(1);
        Check.answers("order", k -> y.order(0, k), 1, 3, 0, 2);
        Check.answers("group 0 has every other cell", k -> y.dot(0, 0, 0, k), 1, 0, 1, 0, 1, 0, 1, 0, 1);
        Check.answers("group 1 has the others", k -> y.dot(0, 1, 0, k), 3, 2, 3, 2, 3);
        Check.answers("crowd of group 0", c -> y.crowd(c, 0, 0), 4, 5, 0, 0);
        Check.answers("crowd of group 1", c -> y.crowd(c, 1, 0), 0, 0, 2, 3);
        DotSpreader z = Check.map("size 2 2;zone a people 99999;zone b people 99999;row b 1:1-1;");
        z.unit(1);
        Check.is("very many dots", z.crowd(3, NONE, 0), 199998);
        Check.is("the last of them", z.dot(1, 0, 0, 199997), 3);
    }

    private static void crowdsAndGaps() {
        DotSpreader x = scaled();
        Check.answers("crowd", c -> x.crowd(c, NONE, 0), 1, 2, 2, 5, 6, 5);
        Check.answers("crowd of group 0", c -> x.crowd(c, 0, 0), 1, 2, 2, 1, 2, 2);
        Check.answers("crowd of group 1", c -> x.crowd(c, 1, 0), 0, 0, 0, 4, 4, 3);
        Check.answers("crowd at level 2", c -> x.crowd(c, NONE, 2), 0, 1, 0, 1, 2, 0);
        Check.answers("crowd at level 4", c -> x.crowd(c, NONE, 4), 0, 0, 0, 0, 0, 0);
        refusesOutside("crowd, cell", n -> x.crowd(n, 0, 0));
        refusesOutsideButNone("crowd, group", n -> x.crowd(0, n, 0));
        refusesOutside("crowd, level", n -> x.crowd(0, 0, n));
        Check.answers("apart", x::apart, 1, 1, 1, 1, NONE);
        refusesOutside("apart", x::apart);
        DotSpreader y = Check.map("size 5 2;zone a people 300;row a 0:0-4;");
        Check.answers("crowd of three", c -> y.crowd(c, NONE, 0), 1, 0, 1, 0, 1, 0);
        Check.is("apart of three", y.apart(0), 4);
        y.people(0, 0, 100);
        Check.is("apart of one", y.apart(0), NONE);
        y.people(0, 0, 200);
        Check.is("apart of two", y.apart(0), 4);
        Check.is("the nearest two are the last two", full("row a 0:1-1;row a 1:0-0;row a 2:0-0;").apart(0), 1);
        Check.is("the nearest two are across", full("row a 0:0-0,4-4;row a 1:3-3;").apart(0), 2);
    }

    private static void moves() {
        DotSpreader x = Check.map(EDGE);
        Check.is("nothing of a there", x.move(0, 1, 1, 0, 3), 0);
        Check.is("so nobody goes", x.lives(0, 0), 100);
        Check.is("sea alone", x.move(0, 1, 0, 3, 3), 1);
        Check.is("so nobody goes either", x.lives(0, 0) * 1000 + x.lives(1, 0), 100050);
        Check.is("and back", x.move(1, 0, 0, 0, 3), 1);
        Check.is("land and sea", x.move(0, 1, 0, 2, 3), 2);
        Check.is("of group 0 stay", x.lives(0, 0), 67);
        Check.is("of group 0 come", x.lives(1, 0), 83);
        Check.is("of group 1 stay", x.lives(0, 1), 66666);
        Check.is("of group 1 at most", x.lives(1, 1), 99999);
        Check.is("zone of the sea", x.cell(3, 0), 1);
        Check.is("it is sea still", x.cell(3, 1), 1);
        Check.is("all the rest", x.move(0, 1, 0, 0, 3), 2);
        Check.is("nobody stays", x.lives(0, 0) + x.lives(0, 1), 0);
        Check.is("all are there", x.lives(1, 0), 150);
        x.people(0, 0, 70);
        Check.is("without cells", x.move(0, 1, 0, 0, 3), 0);
        Check.is("without land none go", x.lives(0, 0), 70);
        edges(x::move);
        edges((zone, other, row, from, to) -> x.tries(zone, other, row, from, to, 4));
        Check.is("nothing has changed", x.lives(1, 0), 150);
    }

    private interface Edge {
        int at(int zone, int other, int row, int from, int to);
    }

    private static void edges(Edge edge) {
        refusesOutside("zone", n -> edge.at(n, 1, 0, 0, 0));
        refusesOutside("other", n -> edge.at(0, n, 0, 0, 0));
        refusesOutside("row", n -> edge.at(0, 1, n, 0, 0));
        Check.refuses("row 2", INDEX, () -> edge.at(0, 1, 2, 0, 0));
        Check.refuses("one zone", ILLEGAL, () -> edge.at(1, 1, 0, 0, 0));
        Check.refuses("no run", ILLEGAL, () -> edge.at(0, 1, 0, 2, 1));
        Check.refuses("no column 4", ILLEGAL, () -> edge.at(0, 1, 0, 3, 4));
        Check.refuses("no column -1", ILLEGAL, () -> edge.at(0, 1, 0, -1, 1));
        Check.refuses("no columns", ILLEGAL, () -> edge.at(0, 1, 0, Integer.MIN_VALUE, Integer.MAX_VALUE));
        Check.refuses("no zone ahead of no run", INDEX, () -> edge.at(2, 2, 0, 2, 1));
    }

    private static void tried() {
        DotSpreader x = Check.map("size 4 2;zone a people 250;zone b people 130;row a 0:0-1;row a 1:0-1;"
                + "row b 0:2-3;row b 1:2-3;sea 1:3-3;");
        Check.is("two new dots", x.tries(0, 1, 0, 1, 1, 0), 2);
        Check.is("none at level 1", x.tries(0, 1, 0, 1, 1, 1), 0);
        Check.is("none of a there", x.tries(0, 1, 0, 2, 3, 0), 0);
        Check.is("the zone stays", x.cell(1, 0), 0);
        Check.is("the people stay", x.lives(0, 0), 250);
        Check.answers("the order stays", k -> x.order(0, k), 0, 5, 1, 4);
        Check.answers("the crowd stays", c -> x.crowd(c, NONE, 0), 1, 0, 1, 0, 0, 1, 0, 0);
        refusesOutside("tries, level", n -> x.tries(0, 1, 0, 1, 1, n));
        Check.refuses("no level ahead of one zone", INDEX, () -> x.tries(0, 0, 0, 1, 1, 5));
        // Group 0 stays on cell 0 and group 1 comes to it: dots that are of another group are new.
        DotSpreader y = Check.map("size 2 2;groups 2;zone a people 1,1;zone b people 0,0;row a 0:0-1;");
        y.unit(1);
        Check.answers("group 0", c -> y.crowd(c, 0, 0), 1, 0, 0, 0);
        Check.answers("group 1", c -> y.crowd(c, 1, 0), 0, 1, 0, 0);
        Check.is("one is new", y.tries(0, 1, 0, 1, 1, 0), 1);
    }

    private static void runs() {
        DotSpreader x = Check.map("size 9 2;zone a people 1;zone b people 1;row a 0:0-1,3-3,5-8;row b 0:2-2;sea 0:6-6;");
        Check.is("runs", x.run(0, 0, NONE, false), 4);
        Check.is("runs, last", x.run(0, 0, NONE, true), 4);
        Check.answers("first", k -> x.run(0, 0, k, false), 0, 3, 5, 7, NONE);
        Check.answers("last", k -> x.run(0, 0, k, true), 1, 3, 5, 8, NONE);
        Check.is("run -2", x.run(0, 0, -2, false), NONE);
        Check.is("run far behind", x.run(0, 0, Integer.MAX_VALUE, false), NONE);
        Check.is("runs of an empty row", x.run(0, 1, NONE, false), 0);
        Check.is("run 0 of an empty row", x.run(0, 1, 0, false), NONE);
        Check.is("one cell", x.run(1, 0, 0, true), 2);
        Check.is("runs in all", x.zone(0, 5), 4);
        refusesOutside("run, zone", n -> x.run(n, 0, 0, false));
        refusesOutside("run, row", n -> x.run(0, n, 0, false));
        Check.refuses("run, row 2", INDEX, () -> x.run(0, 2, NONE, false));
    }

    private static void parts() {
        DotSpreader x = Check.map(COAST);
        Check.answers("part", x::part, NONE, 0, 0, NONE, 0, 0, 0, NONE, NONE, 0, NONE, NONE, 1, 0, 0);
        x.flood(6, true);
        Check.answers("part then", x::part, NONE, 0, 0, NONE, 0, 1, NONE, NONE, NONE, 0, NONE, NONE, 2, 0, 0);
        Check.is("parts", x.zone(0, 2), 3);
        refusesOutside("part", x::part);
        Check.refuses("part 15", INDEX, () -> x.part(15));
        DotSpreader y = Check.map("size 3 3;zone a people 1;row a 0:0-0,2-2;row a 1:1-1;row a 2:0-2;");
        Check.answers("corners do not hang together", y::part, 0, NONE, 1, NONE, 2, NONE, 2, 2, 2);
        DotSpreader up = Check.map("size 3 2;zone a people 1;row a 0:0-0,2-2;row a 1:0-2;");
        Check.answers("down, along and up", up::part, 0, NONE, 0, 0, 0, 0);
        DotSpreader back = Check.map("size 3 3;zone a people 1;row a 0:0-2;row a 1:2-2;row a 2:0-2;");
        Check.answers("along, down and back", back::part, 0, 0, 0, NONE, NONE, 0, 0, 0, 0);
        DotSpreader ends = Check.map("size 3 2;zone a people 1;zone b people 1;row a 0:2-2;row a 1:0-0;");
        Check.answers("a row's end and the next one's start are not side by side", ends::part, NONE, NONE, 0, 1);
        Check.is("parts of them", ends.zone(0, 2), 2);
        Check.is("runs of them", ends.zone(0, 5), 2);
        ends.move(0, 1, 1, 0, 0);
        Check.is("no border between them", ends.zone(0, 4) + ends.zone(1, 4), 0);
        ends.flood(3, true);
        Check.is("no shore between them", ends.zone(0, 3), 0);
    }

    private static void measures() {
        DotSpreader x = Check.map("size 5 2;zone a people 400;row a 0:0-4;sea 1:4-4;");
        Check.answers("crowd", c -> x.measure(c, 0, 0, 0), 1, 1, 1, 0, 1, 0, 0, 0, 0, 0);
        Check.answers("within 0", c -> x.measure(c, 1, 0, 0), 1, 1, 1, 0, 1, 0, 0, 0, 0, 0);
        Check.answers("within 1", c -> x.measure(c, 1, 0, 1), 2, 3, 2, 2, 1, 1, 1, 1, 0, 1);
        Check.answers("within 2", c -> x.measure(c, 1, 0, 2), 2, 3, 2, 2, 1, 2, 3, 2, 2, 1);
        Check.answers("within 999", c -> x.measure(c, 1, 0, 999), 4, 4, 4, 4, 4, 4, 4, 4, 4, 4);
        Check.answers("to dots", c -> x.measure(c, 2, 0, 0), 0, 0, 0, 1, 0, 1, 1, 1, 2, 1);
        Check.answers("to sea", c -> x.measure(c, 3, 0, 0), 17, 10, 5, 2, 1, 16, 9, 4, 1, 0);
        Check.answers("in line", c -> x.measure(c, 4, 0, 0), 4, 4, 4, 4, 4, 1, 1, 1, 0, 1);
        Check.answers("to dots, without", c -> x.measure(c, 2, 1, 0), -1, -1, -1);
        x.flood(9, false);
        Check.answers("to sea, without", c -> x.measure(c, 3, 0, 0), -1, -1, -1);
        refusesOutside("measure, cell", n -> x.measure(n, 0, 0, 0));
        refusesOutside("measure, level", n -> x.measure(0, 0, n, 0));
        Check.refuses("measure 5", MISSING, () -> x.measure(0, 5, 0, 0));
        Check.refuses("measure -1", MISSING, () -> x.measure(0, -1, 0, 0));
        Check.refuses("n 1000", ILLEGAL, () -> x.measure(0, 1, 0, 1000));
        Check.refuses("n -1, for another measure too", ILLEGAL, () -> x.measure(0, 0, 0, -1));
        Check.refuses("no measure ahead of no n", MISSING, () -> x.measure(0, 5, 0, -1));
        Check.refuses("no level ahead of no measure", INDEX, () -> x.measure(0, 5, 5, -1));
    }

    private static void bests() {
        DotSpreader x = Check.map("size 5 2;zone a people 400;row a 0:0-4;sea 1:4-4;");
        Check.is("crowd, the least of several", x.best(0, 0, 0), 0);
        Check.is("within 1", x.best(1, 0, 1), 1);
        Check.is("farthest from dots", x.best(2, 0, 0), 3);
        Check.is("farthest from sea", x.best(3, 0, 0), 0);
        Check.is("in line", x.best(4, 0, 0), 0);
        Check.is("without dots", x.best(2, 1, 0), 0);
        x.flood(0, true);
        Check.is("land alone", x.best(2, 1, 0), 1);
        Check.is("between seas", x.best(3, 0, 0), 2);
        for (int cell = 1; cell < 5; cell++) {
            x.flood(cell, true);
        }
        Check.is("without land", x.best(0, 0, 0), NONE);
        refusesOutside("best, level", n -> x.best(0, n, 0));
        Check.refuses("best 5", MISSING, () -> x.best(5, 0, 0));
        Check.refuses("best -1", MISSING, () -> x.best(-1, 0, 0));
        Check.refuses("n 1000", ILLEGAL, () -> x.best(1, 0, 1000));
        Check.refuses("n -1", ILLEGAL, () -> x.best(4, 0, -1));
        Check.refuses("no measure ahead of no n", MISSING, () -> x.best(5, 0, -1));
        Check.refuses("no level ahead of no measure", INDEX, () -> x.best(5, 5, -1));
    }

    private static void nearestAndServed() {
        DotSpreader x = Check.map("size 5 2;zone a people 300;zone b people 0;row a 0:0-4;row b 1:3-4;sea 1:4-4;");
        Check.answers("nearest", c -> x.nearest(c, 0), 0, 0, 2, 2, 4, 0, 0, 2, 2, 4);
        Check.answers("served", c -> x.served(c, 0), 2, 0, 3, 0, 1, 0, 0, 0, 0, 0);
        Check.is("nearest without dots", x.nearest(0, 1), NONE);
        Check.is("served without dots", x.served(0, 1), 0);
        refusesOutside("nearest, cell", n -> x.nearest(n, 0));
        refusesOutside("nearest, level", n -> x.nearest(0, n));
        refusesOutside("served, cell", n -> x.served(n, 0));
        refusesOutside("served, level", n -> x.served(0, n));
    }

    private static void thinned() {
        DotSpreader x = full("row a 0:0-4;row a 1:2-2;");
        Check.answers("by 0", k -> x.thinned(0, 0, k), 0, 1, 2, 3, 4, 7, NONE);
        Check.is("by 1", x.thinned(0, 1, NONE), 6);
        Check.answers("by 2", k -> x.thinned(0, 2, k), 0, 2, 4, NONE);
        Check.answers("by 4", k -> x.thinned(0, 4, k), 0, 2, 4, NONE);
        Check.answers("by 5", k -> x.thinned(0, 5, k), 0, 3, NONE);
        Check.is("by 5: how many", x.thinned(0, 5, NONE), 2);
        Check.answers("by 999", k -> x.thinned(0, 999, k), 0, NONE);
        Check.is("the -2nd", x.thinned(0, 5, -2), NONE);
        Check.is("without dots", x.thinned(4, 5, NONE), 0);
        Check.refuses("by 1000", ILLEGAL, () -> x.thinned(0, 1000, 0));
        Check.refuses("by -1", ILLEGAL, () -> x.thinned(0, -1, 0));
        Check.refuses("no level ahead of no n", INDEX, () -> x.thinned(5, -1, 0));
        refusesOutside("thinned", n -> x.thinned(n, 0, 0));
    }

    private static void tours() {
        DotSpreader x = full("row a 0:2-2;row a 1:1-1,3-3;");
        Check.answers("tour", k -> x.tour(0, k), 2, 6, 8, NONE);
        Check.is("how many", x.tour(0, NONE), 3);
        Check.is("the -2nd", x.tour(0, -2), NONE);
        Check.is("way", x.way(0), 6);
        Check.is("way without dots", x.way(4), 0);
        DotSpreader y = full("row a 0:1-1,3-3,4-4;row a 2:0-0;");
        Check.answers("tour", k -> y.tour(0, k), 1, 3, 4, 10, NONE);
        Check.is("way", y.way(0), 4 + 1 + 20);
        y.flood(4, true);
        Check.is("way after the sea came", y.way(0), 4 + 13);
        refusesOutside("tour", n -> x.tour(n, 0));
        refusesOutside("way", x::way);
    }

    private static void hulls() {
        DotSpreader x = full("row a 0:2-2;row a 1:1-3;row a 2:0-4;row a 3:1-3;row a 4:2-2;");
        Check.answers("a diamond", k -> x.hull(0, k), 2, 14, 22, 10, NONE);
        Check.is("its corners", x.hull(0, NONE), 4);
        Check.is("its area", x.area(0), 16);
        Check.is("the -2nd", x.hull(0, -2), NONE);
        DotSpreader square = full("row a 1:1-3;row a 2:1-3;row a 3:1-3;");
        Check.answers("a square", k -> square.hull(0, k), 6, 8, 18, 16, NONE);
        Check.is("its area", square.area(0), 8);
        DotSpreader row = full("row a 2:1-4;");
        Check.answers("a row", k -> row.hull(0, k), 11, 14, NONE);
        Check.is("no area", row.area(0), 0);
        DotSpreader slope = full("row a 0:4-4;row a 1:3-3;row a 2:2-2;row a 4:0-0;");
        Check.answers("a slope", k -> slope.hull(0, k), 4, 20, NONE);
        Check.is("no area", slope.area(0), 0);
        DotSpreader one = full("row a 3:3-3;");
        Check.answers("one", k -> one.hull(0, k), 18, NONE);
        Check.is("no area", one.area(0), 0);
        DotSpreader dent = full("row a 0:0-0,4-4;row a 1:2-2;row a 3:0-0;");
        Check.answers("a dent is left out", k -> dent.hull(0, k), 0, 4, 15, NONE);
        Check.is("its area", dent.area(0), 12);
        leastHulls();
        refusesOutside("hull", n -> x.hull(n, 0));
        refusesOutside("area", x::area);
    }

    // Three of the four cells of a square.
    private static void leastHulls() {
        DotSpreader noLast = full("row a 0:0-1;row a 1:0-0;");
        Check.answers("without the last", k -> noLast.hull(0, k), 0, 1, 5, NONE);
        Check.is("half a cell", noLast.area(0), 1);
        DotSpreader noThird = full("row a 0:0-1;row a 1:1-1;");
        Check.answers("without the third", k -> noThird.hull(0, k), 0, 1, 6, NONE);
        DotSpreader noSecond = full("row a 0:0-0;row a 1:0-1;");
        Check.answers("without the second", k -> noSecond.hull(0, k), 0, 6, 5, NONE);
        DotSpreader noFirst = full("row a 0:1-1;row a 1:0-1;");
        Check.answers("without the first", k -> noFirst.hull(0, k), 1, 6, 5, NONE);
        Check.is("half a cell", noFirst.area(0), 1);
        DotSpreader flat = full("row a 0:0-0;row a 1:1-1;row a 2:3-3;");
        Check.answers("a corner that is hardly one", k -> flat.hull(0, k), 0, 13, 6, NONE);
        DotSpreader column = full("row a 0:2-2;row a 1:2-2;row a 2:2-2;row a 4:2-2;");
        Check.answers("a column", k -> column.hull(0, k), 2, 22, NONE);
    }

    private static void middlesAndLines() {
        DotSpreader x = scaled();
        Check.is("middle of all", x.middle(NONE, 0), 4);
        Check.is("middle of group 0", x.middle(0, 0), 1);
        Check.is("middle of group 1", x.middle(1, 0), 4);
        Check.is("middle of group 1 at level 3", x.middle(1, 3), 3);
        Check.is("middle without dots", x.middle(NONE, 4), NONE);
        Check.is("middle of a group without dots", x.middle(1, 4), NONE);
        DotSpreader y = full("row a 0:0-0,3-3;");
        Check.is("a middle without a zone, the least", y.middle(0, 0), 1);
        refusesOutsideButNone("middle, group", n -> x.middle(n, 0));
        refusesOutside("middle, level", n -> x.middle(NONE, n));
        Check.answers("rows", at -> x.line(false, at, 0), 5, 16);
        Check.answers("columns", at -> x.line(true, at, 0), 6, 8, 7);
        Check.answers("columns at level 2", at -> x.line(true, at, 2), 1, 3, 0);
        refusesOutside("row", at -> x.line(false, at, 0));
        refusesOutside("column", at -> x.line(true, at, 0));
        Check.refuses("row 2", INDEX, () -> x.line(false, 2, 0));
        Check.refuses("column 3", INDEX, () -> x.line(true, 3, 0));
        refusesOutside("line, level", n -> x.line(true, 0, n));
    }

    private static void joined() {
        DotSpreader x = scaled();
        // a has 101 and 12 then: 10 and 1 dots; b has no land, so nothing else is carried to a.
        Check.is("a and c", x.joined(0, 2, 0), 11);
        Check.is("a and c at level 1", x.joined(0, 2, 1), 5);
        // c has 101 and 12; to it come 99 of b in group 1: 10 and 11.
        Check.is("c and a", x.joined(2, 0, 0), 21);
        // b has the land of c: 5 of a carried and 46, 7 of a carried and 104.
        Check.is("b and c", x.joined(1, 2, 0), 16);
        Check.is("nothing stays: cells", x.zone(2, 0), 3);
        Check.is("nothing stays: people", x.lives(2, 0), 46);
        Check.is("nothing stays: dots", x.all(NONE, 0), 21);
        x.people(0, 0, 99999);
        x.people(2, 0, 99999);
        Check.is("99999 at most", x.joined(0, 2, 0), 9999 + 1);
        DotSpreader y = Check.map("size 2 2;zone a people 300;zone b people 100;row b 0:0-0;");
        Check.is("the land of cell 0 alone", y.joined(0, 1, 0), 4);
        DotSpreader z = Check.map("size 2 2;zone a people 300;zone b people 100;row b 1:1-1;");
        Check.is("the land of the last cell alone", z.joined(0, 1, 0), 4);
        Check.is("the other way round", z.joined(1, 0, 0), 4);
        refusesOutside("joined, zone", n -> x.joined(n, 0, 0));
        refusesOutside("joined, other", n -> x.joined(0, n, 0));
        refusesOutside("joined, level", n -> x.joined(0, 1, n));
        Check.refuses("one zone", ILLEGAL, () -> x.joined(1, 1, 0));
        Check.refuses("no level ahead of one zone", INDEX, () -> x.joined(1, 1, 5));
    }

    private static void fitsAndScale() {
        DotSpreader x = scaled();
        Check.answers("fits", x::fits, 112, 102, 56);
        Check.is("fits(212)", x.fits(212), 1);
        Check.is("fits(211)", x.fits(211), 2);
        Check.is("fits(104)", x.fits(104), 3);
        Check.is("fits(Integer.MAX_VALUE)", x.fits(Integer.MAX_VALUE), 1);
        Check.is("fits(-1)", x.fits(-1), NONE);
        Check.is("the unit stays", x.count(7), 10);
        DotSpreader y = Check.map("size 2 2;zone a people 99999;row a 0:0-0;");
        Check.is("fits(10)", y.fits(10), 9091);
        Check.is("fits(9)", y.fits(9), NONE);
        y.flood(0, true);
        Check.is("fits without land", y.fits(0), 1);
        Check.answers("scale", x::scale, 4, 4, 3, 3, 2, 2, 2, 2, 2, 2, 1);
        Check.is("scale(20)", x.scale(20), 1);
        Check.is("scale(21)", x.scale(21), 0);
        Check.is("scale(-1)", x.scale(-1), NONE);
        Check.is("scale of too many", Check.map("size 2 2;zone a people 99999;row a 0:0-0;").scale(0), NONE);
    }

    private static void writing() {
        DotSpreader x = Check.map(COAST);
        Check.is("ahead of any", x.octet(0), NONE);
        Check.is("write a", x.write(0), 39);
        Check.is("a", Check.written(x), "row a 0: 1-2;row a 1: 0-1;row a 2: 2-2;");
        Check.is("bytes", x.count(9), 39);
        Check.is("octet(0)", x.octet(0), 'r');
        Check.is("octet(38)", x.octet(38), ';');
        Check.is("octet(39)", x.octet(39), NONE);
        Check.is("octet(-1)", x.octet(-1), NONE);
        Check.is("octet(Integer.MAX_VALUE)", x.octet(Integer.MAX_VALUE), NONE);
        Check.is("write b", x.write(1), 54);
        Check.is("b", Check.written(x), "row bcdefg 0: 4-4;row bcdefg 1: 4-4;row bcdefg 2: 3-4;");
        refusesOutside("write", x::write);
        Check.is("refusals leave it", x.count(9), 54);
        x.move(1, 0, 0, 0, 4);
        x.move(1, 0, 1, 0, 4);
        x.move(1, 0, 2, 0, 4);
        Check.is("what was written stays", x.octet(4), 'b');
        Check.is("without land nothing", x.write(1), 0);
        Check.is("nothing is there", x.octet(0), NONE);
        DotSpreader y = Check.map("size 24 16;zone a people 1;row a 15:0-9, 11-23;row a 10:10-10;");
        y.write(0);
        Check.is("two digits", Check.written(y), "row a 10: 10-10;row a 15: 0-9, 11-23;");
        longest();
    }

    private static void longest() {
        StringBuilder text = new StringBuilder("size 24 16;zone abcdef people 1;");
        for (int row = 0; row < 16; row++) {
            text.append("row abcdef ").append(row).append(":0-23;");
        }
        DotSpreader x = Check.map(text.toString());
        for (int cell = 0; cell < 384; cell += 2) {
            x.flood(cell, true);
        }
        Check.is("runs in all", x.zone(0, 5), 192);
        Check.is("the longest", x.write(0), 1398);
        Check.is("its end", x.octet(1397), ';');
        Check.is("behind its end", x.octet(1398), NONE);
    }

    private static void counts() {
        DotSpreader x = Check.map(COAST);
        Check.answers("count", x::count, 5, 3, 2, 1, 3, 9, 3, 100, 5, 0, 540, NONE);
        Check.is("count(-1)", x.count(-1), NONE);
        Check.is("count(Integer.MIN_VALUE)", x.count(Integer.MIN_VALUE), NONE);
        Check.is("people of all groups", Check.map(SCALES).count(10), 212);
        x.flood(0, true);
        Check.is("sea of no zone", x.count(4), 4);
        Check.is("cells of none", x.count(6), 2);
    }

    private static void newMaps() {
        DotSpreader x = Check.map(COAST);
        x.unit(50);
        x.factor(3);
        x.write(0);
        x.hull(0, 0);
        x.tour(0, 0);
        Check.is("ahead of it", x.crowd(1, NONE, 0), 2);
        Check.feed(x, "size 3 3;zone q people 100;row q 2:1-2;");
        Check.is("read", x.read(), 1);
        Check.answers("count", x::count, 3, 3, 1, 1, 0, 2, 7, 50, 3, 39, 100);
        Check.answers("crowd", c -> x.crowd(c, NONE, 0), 0, 0, 0, 0, 0, 0, 0, 1, 1);
        Check.answers("stands", x::stands, NONE, NONE, NONE, NONE, NONE, NONE, NONE, 0, 1);
        Check.answers("hull", k -> x.hull(0, k), 7, 8, NONE);
        Check.answers("tour", k -> x.tour(0, k), 7, 8, NONE);
        Check.is("what was written stays", x.octet(4), 'a');
        Check.refuses("cell 9", INDEX, () -> x.cell(9, 0));
        Check.refuses("zone 1", INDEX, () -> x.zone(1, 0));
        Check.feed(x, "size 3 3;zone q people 100;row q 2:1-3;");
        Check.refuses("a wrong one", ILLEGAL, x::read);
        Check.answers("crowd as it was", c -> x.crowd(c, NONE, 0), 0, 0, 0, 0, 0, 0, 0, 1, 1);
    }
}
