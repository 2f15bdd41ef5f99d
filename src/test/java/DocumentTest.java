import java.nio.file.Files;
import java.nio.file.Path;
import java.util.ArrayList;
import java.util.List;

/**
 * The document once more from its first line: each of its sentences, quoted as it stands there, with answers worked out from
 * it by hand. At the end the document itself is read: no word of it may be without a quote, no quote without a check.
 */
public final class DocumentTest {
    private static final int NONE = DotSpreader.NONE;
    private static final Path DOCUMENT = Path.of("../shared/DOC.md");

    // n n n n n      . o o . o   The order of north is 2, 5, 4, 0, 1, 3, 6, of south 12, 9, 10, 8, 11, 13, 14.
    // n n ~ s s      o o ~ . o   Group 0 has 4 dots in each, at 0, 2, 4 and 6 of the order, group 1 has one in each, at 1.
    // s s s s s      o o o . o
    private static final String NORTH = "size 5 3;groups 2;zone north people 460,130;zone south people 340,70;"
            + "row north 0:0-4;row north 1:0-1;row south 1:3-4;row south 2:0-4;sea 1:2-2;";
    private static final String SIZE = "size 4 3;";

    private static final List<String> QUOTES = new ArrayList<>();
    private static String quote = "";
    private static int asked = 1;

    public static void main(String[] args) throws Exception {
        opening();
        calls();
        theText();
        linesOfTheText();
        cellsOfTheText();
        theFault();
        theOrder();
        unitAndLevels();
        placesOfDots();
        edges();
        tried();
        runsPartsShores();
        measures();
        servedFitsScale();
        paths();
        hulls();
        middleJoinedWritten();
        exceptions();
        promisesOfTheTape();
        promisesOfTheMap();
        promisesOfNumbers();
        promisesOfPlaces();
        promisesOfEdges();
        promisesOfMeasures();
        promisesOfPaths();
        promisesOfTheRest();
        notPromised();
        says("");
        everyWordIsQuoted();
        Check.done("DocumentTest");
    }

    // ---- quotes ----

    private static void says(String newQuote) {
        Check.is("a check behind '" + quote + "'", asked > 0, true);
        quote = newQuote;
        asked = 0;
        QUOTES.add(newQuote);
    }

    private static void is(String what, long got, long due) {
        asked++;
        Check.is("'" + quote + "', " + what, got, due);
    }

    private static void is(String what, boolean got, boolean due) {
        is(what, got ? 1 : 0, due ? 1 : 0);
    }

    private static void is(String what, String got, String due) {
        asked++;
        Check.is("'" + quote + "', " + what, got, due);
    }

    private static void answers(String what, Check.Indexed call, int... due) {
        asked++;
        Check.answers("'" + quote + "', " + what, call, due);
    }

    private static void fault(String marked) {
        asked++;
        Check.fault("'" + quote + "'", marked);
    }

    private static void noIndex(String what, Check.Call call) {
        asked++;
        Check.refusesIndex("'" + quote + "', " + what, call);
    }

    private static void noNumber(String what, Check.Call call) {
        asked++;
        Check.refusesNumber("'" + quote + "', " + what, call);
    }

    private static void noElement(String what, Check.Call call) {
        asked++;
        Check.refusesMissing("'" + quote + "', " + what, call);
    }

    private static DotSpreader north() {
        return Check.map(NORTH);
    }

    private static int[] places(int count, Check.Indexed call) {
        int[] found = new int[count];
        for (int k = 0; k < count; k++) {
            found[k] = (int) call.at(k);
        }
        return found;
    }

    // ---- What it is ----

    private static void opening() {
        DotSpreader x = north();
        says("Maps of dots, one for so many people:");
        is("460 by 100", x.dots(0, 0, 0), 4);
        says("a map of cells with zones by runs and sea, told as a text;");
        answers("zones of the first two rows", c -> x.cell(c, 0), 0, 0, 0, 0, 0, 0, 0, NONE, 1, 1);
        is("sea", x.cell(7, 1), 1);
        says("dots of each zone by groups, what is left carried to the next zone, so that all together are exact;");
        is("north, group 1", x.dots(0, 1, 0), 1);
        is("30 of group 1 are carried", x.carried(1, 1, 0), 30);
        is("800 of group 0", x.all(0, 0) * 100 + x.left(0, 0), 800);
        is("200 of group 1", x.all(1, 0) * 100 + x.left(1, 0), 200);
        says("each zone's cells in an order that spreads;");
        answers("north", k -> x.order(0, k), 2, 5, 4, 0, 1, 3, 6, NONE);
        answers("south", k -> x.order(1, k), 12, 9, 10, 8, 11, 13, 14, NONE);
        scales(north());
        says("edges that move with their people, tried first;");
        is("new dots", x.tries(0, 1, 1, 0, 1, 0), 4);
        is("two cells", x.move(0, 1, 1, 0, 1), 2);
        is("131 of 460 go", x.lives(1, 0), 340 + 131);
        says("dots thinned out, a tour of them, their hull, their middle;");
        DotSpreader y = north();
        is("kept", y.thinned(0, 4, NONE), 5);
        is("stops", y.tour(0, NONE), 10);
        is("corners", y.hull(0, NONE), 5);
        is("middle", y.middle(NONE, 0), 7);
        says("parts and shores of zones, cells that are best by a measure, dots that are nearest, how crowded, how far apart,"
                + " which unit, which scale would do;");
        is("part", y.part(8), 0);
        is("shore", y.zone(1, 3), 2);
        is("best by what is within 1", y.best(1, 0, 1), 6);
        is("nearest to the sea", y.nearest(7, 0), 2);
        is("crowd", y.crowd(5, 1, 0), 1);
        is("apart", y.apart(0), 1);
        is("unit", y.fits(10), 89);
        is("scale", y.scale(9), 1);
        says("zones written as runs again.");
        writtenAgain(y);
    }

    // By 2 group 0 has in north 4, 2, 1, 0, 0 dots, in south 4, 2, 1, 1, 0; group 1 has 1, then none, and 1, 1, then none.
    private static void scales(DotSpreader x) {
        says("scales one behind another, each with less dots, all of them where those of the finer one are;");
        x.factor(2);
        answers("all at level", l -> x.all(NONE, l), 10, 5, 2, 1, 0);
        int[][] cells = {{1, 2, 4, 5, 6, 9, 10, 11, 12, 14}, {2, 4, 9, 10, 12}, {2, 12}, {12}, {}};
        for (int level = 0; level < 5; level++) {
            int l = level;
            answers("cells with dots at level " + l, k -> x.thinned(l, 0, k), cells[l]);
            is("and no other at level " + l, x.thinned(l, 0, NONE), cells[l].length);
        }
    }

    private static void writtenAgain(DotSpreader y) {
        StringBuilder text = new StringBuilder("size 5 3;zone north people 0;zone south people 0;");
        for (int zone = 0; zone < 2; zone++) {
            y.write(zone);
            text.append(Check.written(y));
        }
        is("both", text.substring(49), "row north 0: 0-4;row north 1: 0-1;row south 1: 3-4;row south 2: 0-4;");
        DotSpreader again = Check.map(text.toString());
        answers("read again", c -> again.cell(c, 0), 0, 0, 0, 0, 0, 0, 0, NONE, 1, 1, 1, 1, 1, 1, 1);
    }

    private static void calls() {
        says("An object is used for at most 512 calls after it has been made; what later calls answer is free.");
        DotSpreader x = new DotSpreader();
        Check.feed(x, "size 2 2;zone a people 100;zone b people 0;row a 0:0-1;row b 1:0-1;");
        is("feed four times, end, read", x.read(), 2);
        // Cell 0 goes to b and back, 50 people with it, until the last call but three.
        for (int call = 6; call < 508; call += 2) {
            boolean there = x.move(0, 1, 0, 0, 0) == 1;
            is("call " + (call + 2), there && x.move(1, 0, 0, 0, 0) == 1, true);
        }
        is("call 509", x.unit(11), 100);
        is("call 510", x.count(7), 11);
        is("call 511", x.cell(0, 0), 0);
        is("call 512", x.cell(3, 0), 1);
    }

    // ---- Terms: THE MAP ----

    private static void theText() {
        says("THE MAP is a text of at most 400 bytes: { LINE ; }.");
        fault(SIZE + " ".repeat(391));
        fault(SIZE + "groups 1;sea 0:0-0;");
        fault(SIZE + "groups 1^");
        says("LINE: size N N | groups N | zone NAME people N { , N } | row NAME N : RUN { , RUN } | sea N : RUN { , RUN }.");
        fault("size 4 3;groups 3;zone a people 1,2,3;row a 0:0-0,1-1,2-3;sea 2:0-0,1-1,2-3;");
        fault(SIZE + "groups 3;zone a people 1,2,^;");
        fault(SIZE + "sea 2:0-0,^;");
        fault(SIZE + "^zones;");
        says("RUN: N - N.");
        fault(SIZE + "sea 2:0^;");
        fault(SIZE + "sea 2:0-^;");
        fault(SIZE + "sea 2:^-0;");
        says("NAMES: 1 to 6 letters a to z, none of size, groups, zone, people, row, sea.");
        fault(SIZE + "zone q people 1;zone quartz people 1;");
        fault(SIZE + "zone ^quartzy people 1;");
        fault(SIZE + "zone ^Q people 1;");
        for (String word : new String[] {"size", "groups", "zone", "people", "row", "sea"}) {
            fault(SIZE + "zone ^" + word + " people 1;");
        }
        says("N: 1 to 5 digits.");
        fault("size 00004 00003;");
        fault("size ^000004 3;");
        fault("size 4 ^x;");
        says("BLANKS (9, 10, 32) may stand between all;");
        fault("\t size\n4\t3 ;\n\n sea 0\t:\n0 - 0 , 1\t- 1 ; ");
        fault("size 4 3;^\r");
        says("words are as many letters as stand there, numbers as many digits.");
        fault("size4 3;zone a people9;row a0:0-0;");
        fault("^sizez 4 3;");
        fault("size ^43;");
    }

    private static void linesOfTheText() {
        says("size: WIDTH and HEIGHT (2 to 24, 2 to 16): the first LINE, and it alone.");
        answers("the least", Check.map("size 2 2;")::count, 2, 2);
        answers("the greatest", Check.map("size 24 16;")::count, 24, 16);
        fault("size ^1 2;");
        fault("size 2 ^1;");
        fault("size ^25 16;");
        fault("size 24 ^17;");
        fault("^sea 0:0-0;size 2 2;");
        fault("size 2 2;^size 2 2;");
        says("groups: GROUPS, 1 to 3 (1 without); once, ahead of all zones.");
        is("without", Check.map(SIZE).count(3), 1);
        is("three", Check.map(SIZE + "groups 3;").count(3), 3);
        fault(SIZE + "groups ^0;");
        fault(SIZE + "groups ^4;");
        fault(SIZE + "groups 2;^groups 2;");
        fault(SIZE + "zone a people 1;^groups 1;");
        says("ZONES, at most 8, numbered from 0 on as they come: people of each GROUP (as many numbers; 0 to 99999).");
        DotSpreader x = Check.map(SIZE + "groups 2;zone z people 5,99999;zone a people 0,7;");
        answers("letter of zone", z -> x.name(z, 0), 'z', 'a');
        answers("people of zone, group 0", z -> x.lives(z, 0), 5, 0);
        answers("people of zone, group 1", z -> x.lives(z, 1), 99999, 7);
        fault(SIZE + "groups 2;zone z people 5^;");
        fault(SIZE + "groups 2;zone z people 5,5^,5;");
        fault(SIZE + "zone z people ^100000;");
        fault(SIZE + "zone a people 1;zone b people 1;zone c people 1;zone d people 1;zone e people 1;zone f people 1;"
                + "zone g people 1;zone h people 1;^zone i people 1;");
    }

    private static void cellsOfTheText() {
        says("row: CELLS of a ROW (0 to HEIGHT less 1) from a column to another one, not below the first (0 to WIDTH less 1),"
                + " are the ZONE's.");
        DotSpreader x = Check.map(SIZE + "zone a people 1;row a 0:1-2;row a 2:3-3;");
        answers("zone of cell", c -> x.cell(c, 0), NONE, 0, 0, NONE, NONE, NONE, NONE, NONE, NONE, NONE, NONE, 0);
        fault(SIZE + "zone a people 1;row a ^3:0-0;");
        fault(SIZE + "zone a people 1;row a 0:2-^1;");
        fault(SIZE + "zone a people 1;row a 0:^4-4;");
        fault(SIZE + "zone a people 1;row a 0:0-^4;");
        says("sea: CELLS of a ROW are SEA (also of ZONES).");
        DotSpreader y = Check.map(SIZE + "zone a people 1;row a 1:0-1;sea 1:1-2;");
        answers("sea of cell", c -> y.cell(c, 1), 0, 0, 0, 0, 0, 1, 1, 0, 0, 0, 0, 0);
        is("it is the zone's", y.cell(5, 0), 0);
        says("CELLS are numbered: row times WIDTH and column.");
        is("row 2, column 3 of 4", x.cell(11, 0), 0);
        is("row 1, column 2 of 3", Check.map("size 3 4;zone a people 1;row a 1:2-2;").cell(5, 0), 0);
        says("A CELL is of one ZONE or none.");
        is("none", x.cell(0, 0), NONE);
        fault(SIZE + "zone a people 1;zone b people 1;row a 0:1-1;row b 0:^1-1;");
        DotSpreader z = Check.map(SIZE + "zone a people 1;zone b people 1;row a 0:1-1;");
        z.move(0, 1, 0, 1, 1);
        is("of the other then", z.cell(1, 0), 1);
        is("not of the first any more", z.zone(0, 0), 0);
    }

    private static void theFault() {
        String two = SIZE + "zone a people 1;zone b people 2;row a 0:1-2;";
        says("THE FAULT: the first byte with which no such text goes on");
        fault("size 4 3^*");
        fault("size 4 3;^*");
        fault(two + "row b 1^;:0-0;");
        says("(a word, a number at its first byte: one too long, out of bounds, one that the end cuts off, a NAME told already,"
                + " or not told yet,");
        fault(SIZE + "zone ^abcdefg people 1;");
        fault(SIZE + "zone a people ^000001;");
        fault("size ^99 3;");
        fault(two + "row b ^77:0-0;");
        fault("^siz");
        fault(SIZE + "^grou");
        fault(SIZE + "zone a ^peo");
        fault("size 4 ^1");
        fault(two + "zone ^b people 1;");
        fault(two + "row ^c 0:0-0;");
        fault(SIZE + "row ^a 0:0-0;");
        fault(SIZE + "zone ab people 1;row ^a");
        says("a ninth zone at that word, a second groups, size, or groups behind a zone, at that word;");
        fault(SIZE + "zone a people 1;zone b people 1;zone c people 1;zone d people 1;zone e people 1;zone f people 1;"
                + "zone g people 1;zone h people 1;row a 0:0-0;^zone a people 100000;");
        fault(SIZE + "groups 1;^groups 4;");
        fault(SIZE + "^size 1 1;");
        fault(two + "^groups 4;");
        says("a RUN with a CELL that is another ZONE's at its first number: ahead of what is wrong behind that, if it is its"
                + " first CELL);");
        fault(two + "row b 0:^0-1;");
        fault(two + "row b 0:^0-3;");
        fault(two + "row b 0:^2-9;");
        fault(two + "row b 0:^2");
        fault(two + "row b 0:0-^9;");
        fault(two + "row b 0:0^");
        says("the text's length, if more must come (a text without size, too).");
        fault("size 4^");
        fault(two + "row b^");
        fault(two + "row^");
        fault(SIZE + "row^");
        fault(two + "sea 0:0-1,^");
        fault("^");
        fault(" \n ^");
    }

    // ---- Terms: THE ORDER and DOTS ----

    // a a a   Of this ring each side has 20 from all others together, each corner 28.
    // a A a   A is sea.
    // a a a
    private static DotSpreader ring() {
        return Check.map("size 3 3;groups 3;zone a people 0,5,0;row a 0:0-2;row a 1:0-2;row a 2:0-2;sea 1:1-1;");
    }

    private static void theOrder() {
        DotSpreader x = ring();
        says("LAND of a ZONE: its CELLS that are not SEA.");
        is("cells", x.zone(0, 0), 9);
        is("land", x.zone(0, 1), 8);
        says("FAR of two CELLS: columns apart times themselves and rows apart times themselves.");
        DotSpreader far = Check.map("size 9 9;zone a people 100;row a 1:2-2;sea 8:5-5;");
        is("3 columns and 7 rows", far.measure(11, 3, 0, 0), 58);
        is("to the dot of (2, 1) from (0, 0)", far.measure(0, 2, 0, 0), 5);
        says("THE ORDER of a ZONE is of its LAND:");
        is("not the sea", x.stands(4), NONE);
        is("eight", x.order(0, 7) >= 0 && x.order(0, 8) == NONE, true);
        says("first the CELL from which FAR of all LAND together is least,");
        is("a side", x.order(0, 0), 1);
        // Columns 0, 1, 2 and 7 are a's: from 0 FAR of all is 54, from 1 38, from 2 30, from 7 110.
        DotSpreader uneven = Check.map("size 8 2;zone a people 0;zone b people 0;row a 0:0-2,7-7;row b 0:3-6;");
        is("not the middle one, nor of another zone", uneven.order(0, 0), 2);
        says("then again and again the one of which the least FAR to those ahead of it is greatest;");
        // From 1 the corners 6 and 8 are FAR 5; then 8 is FAR 4 from 6 and 5 from 1, and 5 is FAR 2 from 1.
        answers("ring", k -> x.order(0, k), 1, 6, 8);
        answers("uneven", k -> uneven.order(0, k), 2, 7, 0, 1, NONE);
        says("of several the least number.");
        answers("ring: all that are left are FAR 1 from one ahead", k -> x.order(0, k), 1, 6, 8, 0, 2, 3, 5, 7, NONE);
    }

    private static void unitAndLevels() {
        // Zones a, b, c, d: b without land.
        DotSpreader x = Check.map("size 4 2;groups 2;zone a people 250,99;zone b people 180,1;zone c people 75,200;"
                + "zone d people 99,0;row a 0:0-1;row b 0:2-2;row c 0:3-3;row d 1:0-3;sea 0:2-2;");
        says("UNIT: people for one DOT (1 to 9999; 100 at first).");
        is("at first", x.count(7), 100);
        is("two of 250", x.dots(0, 0, 0), 2);
        noNumber("0", () -> x.unit(0));
        noNumber("10000", () -> x.unit(10000));
        says("At LEVEL 0, for each GROUP by itself, ZONE by ZONE: people and what is CARRIED (0 at first), parted by UNIT,"
                + " rounded down, are DOTS, what is left is CARRIED on;");
        // Group 0: 250, then 50 and 180 are carried, 230 and 75 are 305, then 5 and 99 are 104. Group 1: 99, 100, 300, 0.
        answers("dots of group 0", z -> x.dots(z, 0, 0), 2, 0, 3, 1);
        answers("dots of group 1", z -> x.dots(z, 1, 0), 0, 0, 3, 0);
        answers("carried of group 0", z -> x.carried(z, 0, 0), 0, 50, 230, 5);
        answers("carried of group 1", z -> x.carried(z, 1, 0), 0, 99, 100, 0);
        says("of a ZONE without LAND: no DOTS, its people are CARRIED, too.");
        is("no dots of 230", x.dots(1, 0, 0), 0);
        is("230 are carried", x.carried(2, 0, 0), 230);
        says("At LEVEL l (1 to 4): likewise with DOTS of the LEVEL ahead in place of people, FACTOR (2 to 10; 5 at first) in"
                + " place of UNIT.");
        // By 5 of 2, 0, 3, 1: 0, 0, 1, 0, and 1 is left; by 2: 1, 0, 1, 1 (3, then 1 and 1); then 0, 0, 1, 0 and 1 is left.
        answers("by 5", z -> x.dots(z, 0, 1), 0, 0, 1, 0);
        is("5 at first", x.factor(2), 5);
        answers("by 2", z -> x.dots(z, 0, 1), 1, 0, 1, 1);
        answers("by 2, level 2", z -> x.dots(z, 0, 2), 0, 0, 1, 0);
        answers("by 2, level 3", z -> x.dots(z, 0, 3), 0, 0, 0, 0);
        answers("carried at level 1", z -> x.carried(z, 0, 1), 0, 0, 0, 1);
        answers("carried at level 2", z -> x.carried(z, 0, 2), 0, 1, 1, 0);
        noNumber("1", () -> x.factor(1));
        noNumber("11", () -> x.factor(11));
        says("LEFT: what is CARRIED behind the last ZONE.");
        answers("of group 0 at level", l -> x.left(0, l), 4, 0, 1, 1, 0);
        answers("of group 1 at level", l -> x.left(1, l), 0, 1, 1, 0, 0);
    }

    private static void placesOfDots() {
        DotSpreader x = ring();
        x.unit(1);
        says("DOT k (0 on) of GROUP g in a ZONE stands on the CELL of THE ORDER at k times GROUPS and g, modulo how many CELLS"
                + " LAND has.");
        // At 1, 4, 7, 10 less 8, 13 less 8.
        answers("of group 1", k -> x.dot(0, 1, 0, k), 6, 2, 7, 8, 3);
        says("OFF of a ZONE and GROUP: DOTS of LEVEL 0 times UNIT, less people.");
        DotSpreader y = north();
        answers("of group 0", z -> y.off(z, 0), -60, 60);
        answers("of group 1", z -> y.off(z, 1), -30, 30);
        says("CROWD of a CELL at a LEVEL: how many DOTS stand on it.");
        x.people(0, 0, 9);
        // Group 0 at 0, 3, 6, 9 less 8, 4, 7, 2, 5, 0: one on each, two on the first of the order.
        answers("of both groups", c -> x.crowd(c, NONE, 0), 1, 2, 2, 2, 0, 1, 2, 2, 2);
        says("APART at a LEVEL: the least FAR of two CELLS with DOTS.");
        DotSpreader z = Check.map("size 6 4;zone a people 100;zone b people 100;zone c people 100;row a 0:0-0;row b 1:5-5;"
                + "row c 3:4-4;");
        is("of 26, 25 and 5", z.apart(0), 5);
    }

    // ---- Terms: AN EDGE ----

    private static void edges() {
        // a c . A b   A is sea of a.
        DotSpreader x = Check.map("size 5 2;groups 2;zone a people 100,10;zone b people 7,99998;zone c people 3,3;row a 0:0-0,3-3;"
                + "row a 1:0-1;row c 0:1-1;row b 0:4-4;sea 0:3-3;");
        says("AN EDGE is MOVED: of a RUN of a ROW those CELLS that are of one ZONE are of another one then;");
        is("two of five", x.move(0, 1, 0, 0, 4), 2);
        answers("zone of cell", c -> x.cell(c, 0), 1, 2, NONE, 1, 1, 0, 0);
        says("of each GROUP people go along: people of the first times how much less its LAND is then, parted by its LAND as it"
                + " was, rounded down");
        is("100 times 1 by 3: stay", x.lives(0, 0), 67);
        is("100 times 1 by 3: go", x.lives(1, 0), 7 + 33);
        is("10 times 1 by 3: stay", x.lives(0, 1), 7);
        is("of no third", x.lives(2, 0) + x.lives(2, 1), 6);
        says("(99999 at most stay with the second; none go where there is no LAND).");
        is("99998 and 3", x.lives(1, 1), 99999);
        x.flood(5, true);
        x.flood(6, true);
        is("sea alone is left", x.move(0, 2, 1, 0, 0), 1);
        is("none go", x.lives(0, 0) * 10 + x.lives(2, 0), 673);
        is("of group 1 neither", x.lives(0, 1) * 10 + x.lives(2, 1), 73);
    }

    private static void tried() {
        says("TRIED: by how much more DOTS of each GROUP stand on CELLS at a LEVEL than before, together (NEW ones);");
        DotSpreader x = north();
        // North has 2, 4, 3 then of group 0, south 12, 9, 8, 11, 14, and of group 1 5 and 6: new are 3, 9, 8, and 6.
        is("three of group 0, one of group 1", x.tries(0, 1, 1, 0, 1, 0), 4);
        // a has three dots on each of 0 and 1; if both go to b, there are two on each of 0, 1 and 2.
        DotSpreader y = Check.map("size 2 2;zone a people 300;zone b people 0;row a 0:0-1;row b 1:0-0;");
        y.unit(50);
        is("two more on one cell, less on two", y.tries(0, 1, 0, 0, 1, 0), 2);
        says("nothing stays.");
        is("cells", x.zone(0, 0), 7);
        is("people", x.lives(0, 0) + x.lives(1, 0) * 1000, 340460);
        answers("crowd", c -> y.crowd(c, NONE, 0), 3, 3, 0, 0);
    }

    private static void runsPartsShores() {
        // a a A a b     A is sea of a, ~ of nobody, the dot is no zone's land.
        // a b . a a
        // a ~ a a a
        DotSpreader x = Check.map("size 5 3;zone a people 1;zone b people 1;row a 0:0-3;row a 1:0-0,3-4;row a 2:0-0,2-4;"
                + "row b 0:4-4;row b 1:1-1;sea 0:2-2;sea 2:1-1;");
        says("RUNS of a ZONE in a ROW: CELLS of its LAND that are side by side, as many as can be, from the left.");
        is("in row 0", x.run(0, 0, NONE, true), 2);
        answers("first columns", k -> x.run(0, 0, k, false), 0, 3, NONE);
        answers("last columns", k -> x.run(0, 0, k, true), 1, 3, NONE);
        is("three side by side are one", x.run(0, 2, 1, true) - x.run(0, 2, 1, false), 2);
        says("PARTS of a ZONE: CELLS of LAND that hang together side by side (four), numbered by their least CELLS.");
        answers("part of cell", x::part, 0, 0, NONE, 1, 0, 0, 1, NONE, 1, 1, 0, NONE, 1, 1, 1);
        is("of a", x.zone(0, 2), 2);
        says("SHORE: sides of LAND of a ZONE that SEA is at,");
        // Sides at cell 2: of 1 and 3; at cell 11: of 10, 12, and of b's 6.
        is("of a", x.zone(0, 3), 4);
        is("of b", x.zone(1, 3), 1);
        says("BORDER: that LAND of other ZONES is at;");
        // 3 and 4, 9 and 4, 1 and 6, 5 and 6.
        is("of a", x.zone(0, 4), 4);
        is("of b", x.zone(1, 4), 4);
        says("EDGE of the map and CELLS of no ZONE are neither.");
        DotSpreader y = Check.map("size 3 2;zone a people 1;row a 0:0-0,2-2;");
        is("no shore", y.zone(0, 3), 0);
        is("no border", y.zone(0, 4), 0);
    }

    // ---- Terms: MEASURES ----

    private static void measures() {
        DotSpreader x = north();
        says("MEASURES of a CELL at a LEVEL: 0 CROWD;");
        is("of 8", x.measure(8, 0, 0, 2), 0);
        is("of 9", x.measure(9, 0, 0, 2), 1);
        says("1 CROWD of all CELLS with FAR to it of n at most, together;");
        // 9 at FAR 1; 2, 4, 12 and 14 at 2.
        is("of 8 within 1", x.measure(8, 1, 0, 1), 1);
        is("of 8 within 2", x.measure(8, 1, 0, 2), 5);
        says("2 the least FAR to a CELL with DOTS (-1 without DOTS);");
        is("of 8", x.measure(8, 2, 0, 0), 1);
        is("of 0 at level 1, to 12", x.measure(0, 2, 1, 0), 8);
        is("without", x.measure(8, 2, 2, 0), -1);
        says("3 the least FAR to SEA (-1 without);");
        is("of 14", x.measure(14, 3, 0, 0), 5);
        is("of itself", x.measure(7, 3, 0, 0), 0);
        is("without", Check.map(SIZE).measure(0, 3, 0, 0), -1);
        says("4 how many CELLS with DOTS are in its ROW and column (it once).");
        // In row 2 10, 11, 12 and 14, in column 1 1, 6 and 11.
        is("of 11", x.measure(11, 4, 0, 0), 6);
        is("of the sea: 5, 6, 9, 2, 12", x.measure(7, 4, 0, 0), 5);
        says("BEST: the CELL of LAND of ZONES by which a MEASURE is greatest; the least of several.");
        answers("by measure, n 1", m -> x.best(m, 0, 1), 1, 6, 0, 0, 11);
        says("NEAREST: of CELLS with DOTS that of the least FAR, the least of several.");
        answers("of cell", c -> x.nearest(c, 0), 1, 1, 2, 2, 4, 5, 6, 2, 9, 9, 10, 11, 12, 12, 14);
    }

    private static void servedFitsScale() {
        DotSpreader x = north();
        says("SERVED: how many CELLS of LAND of ZONES have a CELL with DOTS as NEAREST.");
        answers("by cell", c -> x.served(c, 0), 0, 2, 2, 0, 1, 1, 1, 0, 0, 2, 1, 1, 2, 0, 1);
        says("FITS: the least UNIT (1 to 9999) by which LEVEL 0 has not more than n DOTS in all.");
        // 800 and 200: by 161 4 and 1, by 160 5 and 1; by 801 none; by 1 all.
        is("5", x.fits(5), 161);
        is("0", x.fits(0), 801);
        is("1000", x.fits(1000), 1);
        says("SCALE: the least LEVEL with not more than n DOTS in all.");
        is("10", x.scale(10), 0);
        is("9", x.scale(9), 1);
        is("0", x.scale(0), 2);
    }

    // ---- Terms: paths ----

    private static void paths() {
        DotSpreader x = north();
        says("THINNED at a LEVEL by n (0 to 999): CELLS with DOTS by their numbers: each that is FAR n or more from all that are"
                + " KEPT so far is KEPT.");
        answers("by 4", k -> x.thinned(0, 4, k), 1, 4, 10, 12, 14, NONE);
        // Of 10 and 12 FAR is 4, so 12 is not kept then; 14 is 4 from 4.
        answers("by 5", k -> x.thinned(0, 5, k), 1, 4, 10, NONE);
        answers("by 0", k -> x.thinned(0, 0, k), 1, 2, 4, 5, 6, 9, 10, 11, 12, 14, NONE);
        noNumber("-1", () -> x.thinned(0, -1, NONE));
        noNumber("1000", () -> x.thinned(0, 1000, NONE));
        says("TOUR: from the least CELL with DOTS again and again to that one, not come to yet, of the least FAR (of several the"
                + " least):");
        answers("stops", k -> x.tour(0, k), 1, 2, 6, 5, 10, 11, 12, 14, 9, 4, NONE);
        says("its WAY is FAR of all these steps together.");
        is("way", x.way(0), 1 + 2 + 1 + 1 + 1 + 1 + 4 + 1 + 1);
    }

    private static DotSpreader spots(String rows) {
        return Check.map("size 6 5;zone a people 9999;" + rows);
    }

    private static void hulls() {
        DotSpreader x = north();
        says("HULL at a LEVEL: the least area without dents (by middles of CELLS) that has all CELLS with DOTS:");
        is("five corners round ten", x.hull(0, NONE), 5);
        // (2,1) is within the three others, a dent of those that go round all four.
        answers("a dent", k -> spots("row a 0:0-0,5-5;row a 1:2-2;row a 4:1-1;").hull(0, k), 0, 5, 25, NONE);
        says("its corners (none on a straight side between two others; both ends, where all are on one line; one alone),");
        answers("straight sides", k -> spots("row a 0:0-2;row a 1:0-2;row a 2:0-2;").hull(0, k), 0, 2, 14, 12, NONE);
        answers("a slope between two others", k -> spots("row a 0:0-0;row a 1:1-1;row a 2:0-0,2-2;").hull(0, k), 0, 14, 12, NONE);
        answers("on one line", k -> spots("row a 0:5-5;row a 1:3-3;row a 2:1-1;").hull(0, k), 5, 13, NONE);
        answers("one alone", k -> spots("row a 3:3-3;").hull(0, k), 21, NONE);
        says("from the least CELL on, round in that way in which columns grow along the first row.");
        answers("corners", k -> x.hull(0, k), 1, 4, 14, 10, 5, NONE);
        says("AREA2: twice its area.");
        is("8 less a half", x.area(0), 15);
        is("on one line", spots("row a 0:5-5;row a 1:3-3;row a 2:1-1;").area(0), 0);
        // (0,0), (5,0), (1,4): 5 times 4.
        is("three corners", spots("row a 0:0-0,5-5;row a 1:2-2;row a 4:1-1;").area(0), 20);
    }

    private static void middleJoinedWritten() {
        says("MIDDLE of a GROUP at a LEVEL: the CELL of the map (any) from which FAR of all its DOTS (of each one) together is"
                + " least; the least of several.");
        DotSpreader x = north();
        is("of group 0, on the sea", x.middle(0, 0), 7);
        is("of level 1", x.middle(0, 1), 12);
        // Three dots at column 0, one at column 4: from column 1 3 and 9; as many at 0 and 3: from 1 and 2 the same.
        DotSpreader uneven = Check.map("size 5 2;zone a people 300;zone b people 100;row a 0:0-0;row b 0:4-4;");
        is("of each one", uneven.middle(0, 0), 1);
        is("least of several", Check.map("size 5 2;zone a people 100;zone b people 100;row a 0:0-0;row b 0:3-3;").middle(0, 0), 1);
        says("JOINED: all CELLS and people of a second ZONE come to a first one (99999 of a GROUP at most): DOTS of the first at a"
                + " LEVEL then, of all GROUPS together; nothing stays.");
        is("800 and 200", x.joined(1, 0, 0), 10);
        is("8 and 2 by 5", x.joined(1, 0, 1), 1);
        is("people stay", x.lives(0, 0), 460);
        is("cells stay", x.zone(0, 0), 7);
        x.people(0, 0, 99999);
        is("99999 and 200", x.joined(1, 0, 0), 999 + 2);
        says("WRITTEN: a ZONE as LINES: for each ROW in which it has RUNS: row NAME r: a-b, c-d; (one blank behind row, NAME, each"
                + " colon and comma; nothing between LINES).");
        DotSpreader y = Check.map("size 24 16;zone quartz people 1;row quartz 0:0-0;row quartz 15:0-1,3-3,10-23;sea 0:0-0;"
                + "row quartz 9:9-10;");
        y.write(0);
        is("quartz", Check.written(y), "row quartz 9: 9-10;row quartz 15: 0-1, 3-3, 10-23;");
    }

    private static void exceptions() {
        DotSpreader x = north();
        says("Of several exceptions the one told first is thrown;");
        noIndex("no cell, no measure, no n", () -> x.measure(15, 5, 0, 1000));
        noElement("no measure, no n", () -> x.measure(14, 5, 0, 1000));
        says("a call that throws changes nothing but the TAPE, where it is used up, and fault(), where a text is read.");
        noNumber("a unit that is none", () -> x.unit(0));
        is("the unit", x.count(7), 100);
        Check.feed(x, "size 3 3;zone q people 5;x");
        noNumber("a wrong text", x::read);
        is("its fault", x.fault(), 25);
        is("the TAPE is used up", x.end(1), false);
        answers("the map", x::count, 5, 3, 2, 2, 1, 14, 0, 100, 5, 0, 1000);
        says("IndexOutOfBoundsException: there is no such CELL, ZONE, GROUP, LEVEL (0 to 4), ROW.");
        noIndex("cell", () -> x.cell(15, 0));
        noIndex("zone", () -> x.zone(2, 0));
        noIndex("group", () -> x.lives(0, 2));
        noIndex("level", () -> x.way(5));
        noIndex("row", () -> x.run(0, 3, NONE, true));
        is("level 4", x.way(4), 0);
        says("IllegalArgumentException: a number is none; a text is wrong.");
        noNumber("people", () -> x.people(0, 0, 100000));
        noNumber("no text", x::read);
        says("NoSuchElementException: there is none such, another what.");
        noElement("dot", () -> x.dot(0, 0, 0, 4));
        noElement("what", () -> x.cell(0, 2));
        says("At first there are no CELLS, no ZONES, 1 GROUP.");
        answers("count", new DotSpreader()::count, 0, 0, 0, 1, 0, 0, 0);
        says("UNIT and FACTOR stay with another MAP.");
        x.unit(7);
        x.factor(9);
        Check.feed(x, SIZE);
        x.read();
        is("unit", x.count(7), 7);
        is("factor", x.count(8), 9);
    }

    // ---- Promises ----

    private static void promisesOfTheTape() {
        DotSpreader x = new DotSpreader();
        says("No CELLS.");
        noIndex("cell 0", () -> x.cell(0, 0));
        is("none", x.count(0) * x.count(1), 0);
        says("Twenty bytes come behind the TAPE, of each number the highest first: how many it has; NONE, and none come, if it would"
                + " have more than 400.");
        is("size 2 3;", x.feed(0x73697a65, 0x20322033, 0x3b202020, 0x20202020, 0x20202020), 20);
        is("sea 2:0-1; behind it", x.feed(0x73656120, 0x323a302d, 0x313b2020, 0x20202020, 0x20202020), 40);
        for (int length = 60; length <= 400; length += 20) {
            is("blanks", x.feed(0x20202020, 0x20202020, 0x20202020, 0x20202020, 0x20202020), length);
        }
        is("more than 400", x.feed(0, 0, 0, 0, 0), NONE);
        says("The TAPE has its first n bytes alone: true; false, and nothing happens, if it has fewer, or n is below 0.");
        is("401", x.end(401), false);
        is("-1", x.end(-1), false);
        is("30", x.end(30), true);
        is("31", x.end(31), false);
        says("Uses the TAPE up: it is THE MAP (in place of the one before): how many ZONES.");
        is("none", x.read(), 0);
        is("its sea", x.count(4), 2);
        is("used up", x.end(1), false);
        Check.feed(x, NORTH);
        is("two", x.read(), 2);
        is("in place of that", x.count(4), 1);
        says("IllegalArgumentException: the text is wrong.");
        Check.feed(x, "size 2 2;zone");
        noNumber("more must come", x::read);
        says("THE FAULT of the latest read(); NONE without one, and ahead of any.");
        is("13", x.fault(), 13);
        Check.feed(x, SIZE);
        x.read();
        is("without", x.fault(), NONE);
        is("ahead of any", new DotSpreader().fault(), NONE);
    }

    private static void promisesOfTheMap() {
        DotSpreader x = north();
        says("Of a CELL what 0 its ZONE (NONE), 1 1 if it is SEA.");
        is("zone", x.cell(9, 0), 1);
        is("none", x.cell(7, 0), NONE);
        is("sea", x.cell(7, 1), 1);
        is("no sea", x.cell(9, 1), 0);
        says("NoSuchElementException: another what.");
        noElement("cell, 2", () -> x.cell(9, 2));
        noElement("zone, 6", () -> x.zone(0, 6));
        says("Of a ZONE what 0 CELLS, 1 LAND, 2 PARTS, 3 SHORE, 4 BORDER, 5 RUNS in all.");
        x.flood(3, true);
        // At 3, which is sea now, are 2, 4 and south's 8; of the four borders those of 5, 6 and 4 are left.
        answers("north", w -> x.zone(0, w), 7, 6, 2, 4, 3, 3);
        answers("south", w -> x.zone(1, w), 7, 7, 1, 3, 3, 2);
        says("Letter k of a ZONE's NAME; NONE behind it.");
        answers("north", k -> x.name(0, k), 'n', 'o', 'r', 't', 'h', NONE, NONE);
        says("People of a GROUP in a ZONE are told (0 to 99999): how many there were.");
        is("there were", x.people(1, 1, 99999), 70);
        is("there were then", x.people(1, 1, 0), 99999);
        says("IllegalArgumentException: it is none.");
        noNumber("people", () -> x.people(1, 1, -1));
        noNumber("unit", () -> x.unit(-100));
        noNumber("factor", () -> x.factor(0));
        says("How many people.");
        is("none", x.lives(1, 1), 0);
        is("460", x.lives(0, 0), 460);
        says("A CELL is SEA, or not any more: whether that is new.");
        is("sea already", x.flood(3, true), false);
        is("not any more", x.flood(3, false), true);
        is("not sea already", x.flood(3, false), false);
        is("land again", x.zone(0, 1), 7);
    }

    private static void promisesOfNumbers() {
        DotSpreader x = north();
        says("UNIT is told: what it was.");
        is("100", x.unit(50), 100);
        is("50", x.unit(100), 50);
        says("FACTOR is told: what it was.");
        is("5", x.factor(4), 5);
        is("4", x.factor(5), 4);
        says("The k-th CELL of THE ORDER of a ZONE; NONE.");
        answers("south", k -> x.order(1, k), 12, 9, 10, 8, 11, 13, 14, NONE);
        is("-1", x.order(1, -1), NONE);
        says("Where a CELL stands in THE ORDER of its ZONE (0 on); NONE: it is in none.");
        answers("cell", x::stands, 3, 4, 0, 5, 2, 1, 6, NONE, 3, 1, 2, 4, 0, 5, 6);
        says("DOTS.");
        is("north, group 0", x.dots(0, 0, 0), 4);
        is("south, group 0, level 1", x.dots(1, 0, 1), 1);
        says("What is CARRIED to a ZONE.");
        is("60 of 460", x.carried(1, 0, 0), 60);
        is("4 of level 0", x.carried(1, 0, 1), 4);
        is("nothing to the first", x.carried(0, 0, 0), 0);
        says("LEFT.");
        answers("of group 0 at level", l -> x.left(0, l), 0, 3, 1, 0, 0);
        answers("of group 1 at level", l -> x.left(1, l), 0, 2, 0, 0, 0);
        says("DOTS of a GROUP (NONE: of all) at a LEVEL, together.");
        is("of group 0", x.all(0, 0), 8);
        is("of group 1", x.all(1, 0), 2);
        is("of all", x.all(NONE, 0), 10);
    }

    private static void promisesOfPlaces() {
        DotSpreader x = north();
        says("The CELL of DOT k.");
        answers("north, group 0", k -> x.dot(0, 0, 0, k), 2, 4, 1, 6);
        answers("south, group 0", k -> x.dot(1, 0, 0, k), 12, 10, 11, 14);
        is("south, group 1", x.dot(1, 1, 0, 0), 9);
        says("NoSuchElementException: there is none such.");
        noElement("dot 4", () -> x.dot(0, 0, 0, 4));
        noElement("dot -1", () -> x.dot(0, 0, 0, -1));
        says("CROWD; of one GROUP (NONE: of all).");
        answers("of group 0", c -> x.crowd(c, 0, 0), 0, 1, 1, 0, 1, 0, 1, 0, 0, 0, 1, 1, 1, 0, 1);
        answers("of group 1", c -> x.crowd(c, 1, 0), 0, 0, 0, 0, 0, 1, 0, 0, 0, 1, 0, 0, 0, 0, 0);
        answers("of all", c -> x.crowd(c, NONE, 0), 0, 1, 1, 0, 1, 1, 1, 0, 0, 1, 1, 1, 1, 0, 1);
        says("APART; NONE: there are not two.");
        is("level 0", x.apart(0), 1);
        is("one alone", x.apart(1), NONE);
        is("none", x.apart(2), NONE);
        says("OFF.");
        is("400 less 460", x.off(0, 0), -60);
        is("100 less 70", x.off(1, 1), 30);
    }

    private static void promisesOfEdges() {
        DotSpreader x = north();
        says("AN EDGE is MOVED (a ROW, columns from to): how many CELLS.");
        is("row 1, all columns", x.move(1, 0, 1, 0, 4), 2);
        is("those", x.cell(8, 0) + x.cell(9, 0), 0);
        is("none of south there any more", x.move(1, 0, 1, 0, 4), 0);
        says("IllegalArgumentException: both are one ZONE, or there is no such RUN.");
        noNumber("one zone", () -> x.move(1, 1, 0, 0, 4));
        noNumber("-1 to 4", () -> x.move(1, 0, 0, -1, 4));
        noNumber("0 to 5", () -> x.move(1, 0, 0, 0, 5));
        noNumber("4 to 3", () -> x.tries(1, 0, 0, 4, 3, 0));
        says("TRIED, likewise.");
        is("nothing of it there", x.tries(1, 0, 0, 0, 4, 0), 0);
        noIndex("a level that is none", () -> x.tries(1, 1, 0, 0, 4, 5));
        noNumber("one zone", () -> x.tries(1, 1, 0, 0, 4, 0));
        says("How many RUNS a ZONE has in a ROW (k NONE), or the first column of the k-th one (last false), the last one; NONE"
                + " without.");
        is("two in row 1", x.run(0, 1, NONE, true), 2);
        answers("first", k -> x.run(0, 1, k, false), 0, 3, NONE);
        answers("last", k -> x.run(0, 1, k, true), 1, 4, NONE);
        is("-2", x.run(0, 1, -2, true), NONE);
        says("The PART that a CELL is in, numbered within its ZONE; NONE.");
        // Row 1 hangs together with row 0 now, south is the last row.
        answers("cell", x::part, 0, 0, 0, 0, 0, 0, 0, NONE, 0, 0, 0, 0, 0, 0, 0);
        x.flood(3, true);
        x.flood(12, true);
        x.flood(4, true);
        answers("cell then", x::part, 0, 0, 0, NONE, NONE, 0, 0, NONE, 1, 1, 0, 0, NONE, 1, 1);
    }

    private static void promisesOfMeasures() {
        DotSpreader x = north();
        says("A MEASURE of a CELL (n for 1 alone).");
        answers("of 8, n 2", m -> x.measure(8, m, 0, 2), 0, 5, 1, 1, 3);
        answers("of 8, n 0", m -> x.measure(8, m, 0, 0), 0, 0, 1, 1, 3);
        says("NoSuchElementException: there is no such MEASURE; IllegalArgumentException: n is not 0 to 999.");
        noElement("5", () -> x.measure(8, 5, 0, 0));
        noElement("-1", () -> x.measure(8, -1, 0, 0));
        noNumber("1000", () -> x.measure(8, 1, 0, 1000));
        noNumber("-1, of another measure", () -> x.measure(8, 0, 0, -1));
        is("999", x.measure(8, 1, 0, 999), 10);
        says("BEST; NONE without LAND.");
        answers("by measure, n 1", m -> x.best(m, 0, 1), 1, 6, 0, 0, 11);
        is("without", Check.map(SIZE).best(3, 0, 0), NONE);
        says("Exceptions likewise.");
        noIndex("a level that is none", () -> x.best(5, 5, 1000));
        noElement("5", () -> x.best(5, 0, 1000));
        noNumber("1000", () -> x.best(0, 0, 1000));
        says("NEAREST; NONE without DOTS.");
        is("of 13", x.nearest(13, 0), 12);
        is("without", x.nearest(13, 2), NONE);
        says("SERVED by a CELL (0, if it has no DOTS).");
        is("by 12", x.served(12, 0), 2);
        is("by 13", x.served(13, 0), 0);
        is("by the one dot of level 1", x.served(12, 1), 14);
    }

    private static void promisesOfPaths() {
        DotSpreader x = north();
        says("THINNED: how many are KEPT (k NONE), or the k-th one; NONE without.");
        is("by 4", x.thinned(0, 4, NONE), 5);
        is("the last", x.thinned(0, 4, 4), 14);
        is("behind it", x.thinned(0, 4, 5), NONE);
        is("-2", x.thinned(0, 4, -2), NONE);
        says("IllegalArgumentException: n is none.");
        noNumber("1000", () -> x.thinned(0, 1000, 0));
        says("TOUR: how many CELLS (k NONE), or the k-th one; NONE without.");
        is("ten", x.tour(0, NONE), 10);
        is("the last", x.tour(0, 9), 4);
        is("behind it", x.tour(0, 10), NONE);
        is("-2", x.tour(0, -2), NONE);
        says("WAY of the TOUR.");
        is("level 0", x.way(0), 13);
        is("one stop", x.way(1), 0);
        says("HULL: how many corners (k NONE), or the k-th one; NONE without.");
        is("five", x.hull(0, NONE), 5);
        is("the last", x.hull(0, 4), 5);
        is("behind it", x.hull(0, 5), NONE);
        is("-2", x.hull(0, -2), NONE);
        says("AREA2.");
        is("level 0", x.area(0), 15);
        is("one corner", x.area(1), 0);
        says("MIDDLE of a GROUP (NONE: of all); NONE without DOTS.");
        is("of all", x.middle(NONE, 0), 7);
        is("of group 1", x.middle(1, 0), 7);
        is("of group 1 at level 1", x.middle(1, 1), NONE);
    }

    private static void promisesOfTheRest() {
        DotSpreader x = north();
        says("CROWD of all CELLS of a ROW (column false), or of a column, together.");
        answers("row", r -> x.line(false, r, 0), 3, 3, 4);
        answers("column", c -> x.line(true, c, 0), 2, 3, 2, 0, 3);
        says("IndexOutOfBoundsException also: there is no such column.");
        noIndex("5", () -> x.line(true, 5, 0));
        noIndex("row 3", () -> x.line(false, 3, 0));
        says("JOINED.");
        is("north and south", x.joined(0, 1, 0), 10);
        says("IllegalArgumentException: both are one.");
        noNumber("north", () -> x.joined(0, 0, 0));
        says("FITS; NONE: none.");
        is("10", x.fits(10), 89);
        is("-1", x.fits(-1), NONE);
        says("SCALE; NONE: none.");
        is("1", x.scale(1), 1);
        is("-1", x.scale(-1), NONE);
        says("A ZONE is WRITTEN: how many bytes.");
        is("south", x.write(1), 34);
        says("Byte k of what was WRITTEN latest; NONE without.");
        is("south", Check.written(x), "row south 1: 3-4;row south 2: 0-4;");
        is("behind it", x.octet(34), NONE);
        is("-1", x.octet(-1), NONE);
        says("0 WIDTH, 1 HEIGHT, 2 ZONES, 3 GROUPS, 4 SEA CELLS, 5 LAND of ZONES, 6 CELLS of no ZONE that are not SEA, 7 UNIT, 8"
                + " FACTOR, 9 bytes WRITTEN, 10 people of all.");
        x.flood(7, false);
        x.flood(0, true);
        x.flood(1, true);
        answers("count", x::count, 5, 3, 2, 2, 2, 12, 1, 100, 5, 34, 1000);
        says("NONE for another what.");
        is("11", x.count(11), NONE);
        is("-1", x.count(-1), NONE);
        Check.feed(x, SIZE);
        x.read();
        quote = "Byte k of what was WRITTEN latest; NONE without.";
        is("latest, with another map", x.octet(4), 's');
    }

    private static void notPromised() {
        says("How the state is held inside the object is free, as are the speed of each call, the text of toString and the behaviour"
                + " of equals and hashCode. Use of one object from several threads at once is not promised to be safe. Nothing is"
                + " promised beyond the answers and state changes described above, and nothing about an object after its 512th"
                + " call.");
        // What is answered hangs on the calls alone: two objects with the same calls answer the same, whichever is asked first.
        DotSpreader one = north();
        DotSpreader other = north();
        int[] first = places(15, c -> one.crowd(c, NONE, 0));
        other.tour(0, 3);
        other.joined(0, 1, 2);
        answers("what was asked ahead changes nothing", c -> other.crowd(c, NONE, 0), first);
    }

    // ---- the document itself ----

    private static void everyWordIsQuoted() throws Exception {
        String text = Files.readString(DOCUMENT).replaceAll("(?s)```java.*?```", " ").replace("```text", " ").replace("```", " ")
                .replaceAll("(?m)^#.*$", " ").replaceAll("==== \\d+\\.", " ").replaceAll("`[^`]*`: ", " ").replaceAll("\\s+", " ");
        boolean[] quoted = new boolean[text.length()];
        for (String each : QUOTES) {
            int at = each.isEmpty() ? -1 : text.indexOf(each);
            Check.is("the document says '" + each + "'", at >= 0 || each.isEmpty(), true);
            while (at >= 0) {
                java.util.Arrays.fill(quoted, at, at + each.length(), true);
                at = text.indexOf(each, at + 1);
            }
        }
        StringBuilder rest = new StringBuilder();
        for (int k = 0; k < text.length(); k++) {
            rest.append(quoted[k] ? ' ' : text.charAt(k));
        }
        Check.is("words of the document without a quote", rest.toString().trim().replaceAll("\\s+", " "), "");
    }
}
