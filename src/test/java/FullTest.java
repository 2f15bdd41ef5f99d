/**
 * Full: a TAPE of 400 bytes, a map of 24 by 16, 8 ZONES, 99999 people, more DOTS than LAND has CELLS, and the greatest
 * numbers that come of them.
 */
public final class FullTest {
    private static final int NONE = DotSpreader.NONE;

    public static void main(String[] args) {
        fullTape();
        nearlyFullTapes();
        refusedBytesDoNotCome();
        orderOfBytes();
        greatestMap();
        greatestMapsOrder();
        greatestMapsPaths();
        greatestMapsMeasures();
        greatestMapTried();
        mostParts();
        mostRuns();
        eightZones();
        mostPeople();
        mostPeopleAtLevels();
        mostPeoplesPlaces();
        peopleStay();
        peopleStayOfEachGroup();
        peopleGoRoundedDown();
        joinedPeople();
        moreDotsThanLand();
        moreDotsThanLandOfGroups();
        oneDotMoreThanLand();
        Check.done("FullTest");
    }

    // ---- the TAPE ----

    private static int blanks(DotSpreader x) {
        return x.feed(0x20202020, 0x20202020, 0x20202020, 0x20202020, 0x20202020);
    }

    private static void fullTape() {
        DotSpreader x = new DotSpreader();
        Check.is("Promise 2: size 3 2;", x.feed(0x73697a65, 0x20332032, 0x3b202020, 0x20202020, 0x20202020), 20);
        for (int length = 40; length <= 400; length += 20) {
            Check.is("Promise 2: how many it has", blanks(x), length);
        }
        Check.is("Promise 2: it would have 420", blanks(x), NONE);
        Check.is("Promise 2: again", blanks(x), NONE);
        Check.is("Promise 3: it has fewer than 401", x.end(401), false);
        Check.is("Promise 3: it has 400", x.end(400), true);
        Check.is("Promise 4: 400 bytes are a map", x.read(), 0);
        Check.is("Promise 4: that one", x.count(0), 3);
        Check.is("Promise 2: it is empty then", blanks(x), 20);
    }

    private static void nearlyFullTapes() {
        for (int length = 379; length <= 400; length++) {
            DotSpreader x = new DotSpreader();
            for (int k = 0; k < 20; k++) {
                blanks(x);
            }
            Check.is("Promise 3: cut to " + length, x.end(length), true);
            Check.is("Promise 2: 20 bytes behind " + length, blanks(x), length <= 380 ? length + 20 : NONE);
        }
    }

    private static void refusedBytesDoNotCome() {
        DotSpreader x = new DotSpreader();
        x.feed(0x73697a65, 0x20332032, 0x3b202020, 0x20202020, 0x20202020);
        for (int k = 1; k < 20; k++) {
            blanks(x);
        }
        x.end(381);
        Check.is("Promise 2: none come", x.feed(0x2a2a2a2a, 0x2a2a2a2a, 0x2a2a2a2a, 0x2a2a2a2a, 0x2a2a2a2a), NONE);
        Check.is("Promise 2: so it has fewer than 382", x.end(382), false);
        Check.is("Promise 3: nothing happens where it is false", x.end(381), true);
        Check.is("Promise 4: nothing wrong has come", x.read(), 0);
    }

    private static void orderOfBytes() {
        DotSpreader x = new DotSpreader();
        // "size 24 16;sea 15:0-", the highest byte of each number first.
        Check.is("Promise 2: the first twenty", x.feed(0x73697a65, 0x20323420, 0x31363b73, 0x65612031, 0x353a302d), 20);
        Check.is("Promise 2: behind them", x.feed(0x32333bff, 0xffffffff, 0x80000000, 0x7fffffff, 0), 40);
        Check.is("Promise 3: 23; alone stay", x.end(23), true);
        Check.is("Promise 4: they are a map", x.read(), 0);
        Check.is("Promise 44: 24 cells of sea", x.count(4), 24);
        Check.is("Promise 6: the last one", x.cell(383, 1), 1);
        Check.is("Promise 6: the row ahead", x.cell(359, 1), 0);
    }

    // ---- a map of 24 by 16 ----

    private static String wholeMap(String people) {
        StringBuilder text = new StringBuilder("size 24 16;").append(people);
        for (int row = 0; row < 16; row++) {
            text.append("row a ").append(row).append(":0-23;");
        }
        return text.toString();
    }

    // One dot on each cell.
    private static DotSpreader whole() {
        DotSpreader x = Check.map(wholeMap("zone a people 38400;"));
        x.factor(2);
        return x;
    }

    private static void greatestMap() {
        DotSpreader x = whole();
        Check.answers("Promise 44: the greatest map", x::count, 24, 16, 1, 1, 0, 384, 0, 100, 2, 0, 38400);
        Check.answers("Promise 7: its zone, what", w -> x.zone(0, w), 384, 384, 1, 0, 0, 16);
        Check.answers("Promise 19: at level", l -> x.all(NONE, l), 384, 192, 96, 48, 24);
        Check.is("Promise 16: dots", x.dots(0, 0, 0), 384);
        Check.is("Promise 21: on the first cell", x.crowd(0, NONE, 0), 1);
        Check.is("Promise 21: on the last cell", x.crowd(383, NONE, 0), 1);
        Check.is("Promise 26: one run in the last row", x.run(0, 15, NONE, true), 1);
        Check.is("Promise 26: to its last column", x.run(0, 15, 0, true), 23);
        Check.is("Promise 27: the last cell's part", x.part(383), 0);
        Check.is("Promise 38: a row", x.line(false, 15, 0), 24);
        Check.is("Promise 38: a column", x.line(true, 23, 0), 16);
        // Ten lines of 14 bytes, six of 15.
        Check.is("Promise 42: written", x.write(0), 230);
        Check.is("Promise 43: its last byte", x.octet(229), ';');
    }

    // Of columns 11 and 12, rows 7 and 8 the least are 11 and 7, from there the farthest corner is 383; 23 is FAR 193
    // from the first and 225 from the second, no other cell is as far from both.
    private static void greatestMapsOrder() {
        DotSpreader x = whole();
        Check.answers("Promise 14: the order", k -> x.order(0, k), 179, 383, 23);
        Check.is("Promise 15: the first", x.stands(179), 0);
        Check.is("Promise 15: the second", x.stands(383), 1);
        Check.is("Promise 14: behind the last", x.order(0, 384), NONE);
        boolean[] seen = new boolean[384];
        for (int k = 0; k < 384; k++) {
            int cell = x.order(0, k);
            Check.is("Promise 14: each cell once, " + cell, seen[cell], false);
            seen[cell] = true;
        }
        Check.is("Promise 20: the last dot", x.stands(x.dot(0, 0, 0, 383)), 383);
    }

    private static void greatestMapsPaths() {
        DotSpreader x = whole();
        Check.is("Promise 22: apart", x.apart(0), 1);
        Check.is("Promise 32: by 0 all are kept", x.thinned(0, 0, NONE), 384);
        Check.is("Promise 32: by 1 all are kept", x.thinned(0, 1, 383), 383);
        Check.is("Promise 32: by 2 every other one", x.thinned(0, 2, NONE), 192);
        Check.is("Promise 32: of the second row the odd ones", x.thinned(0, 2, 12), 25);
        Check.is("Promise 32: by 999 the first", x.thinned(0, 999, NONE), 1);
        Check.is("Promise 33: all cells", x.tour(0, NONE), 384);
        Check.is("Promise 33: along the first row", x.tour(0, 23), 23);
        Check.is("Promise 33: down, and back", x.tour(0, 24), 47);
        Check.is("Promise 33: the last row backwards", x.tour(0, 383), 360);
        Check.is("Promise 33: behind the last", x.tour(0, 384), NONE);
        Check.is("Promise 34: steps of 1", x.way(0), 383);
        Check.is("Promise 35: corners", x.hull(0, NONE), 4);
        Check.answers("Promise 35: round from the least", k -> x.hull(0, k), 0, 23, 383, 360, NONE);
        Check.is("Promise 36: twice 23 times 15", x.area(0), 690);
        Check.is("Promise 37: the middle", x.middle(NONE, 0), 179);
    }

    private static void greatestMapsMeasures() {
        DotSpreader x = whole();
        Check.answers("Promise 28: of the first cell, n 999", m -> x.measure(0, m, 0, 999), 1, 384, 0, -1, 39);
        Check.answers("Promise 28: of the last cell, n 0", m -> x.measure(383, m, 0, 0), 1, 1, 0, -1, 39);
        Check.is("Promise 28: within the greatest FAR but one", x.measure(0, 1, 0, 753), 383);
        Check.is("Promise 28: within the greatest FAR", x.measure(0, 1, 0, 754), 384);
        x.flood(0, true);
        Check.is("Promise 28: the greatest FAR to the sea", x.measure(383, 3, 0, 0), 754);
        Check.is("Promise 29: farthest from the sea", x.best(3, 0, 0), 383);
        Check.is("Promise 7: sides at the sea", x.zone(0, 3), 2);
        Check.is("Promise 31: served by the last", x.served(383, 0), 1);
    }

    // b has people, but no land until it gets some.
    private static void greatestMapTried() {
        DotSpreader x = Check.map(wholeMap("groups 3;zone a people 0,0,0;zone b people 5,5,5;"));
        x.unit(1);
        Check.is("Promise 19: no dots without land", x.all(NONE, 0), 0);
        Check.is("Promise 25: one cell comes to b, and its five of each group", x.tries(0, 1, 15, 23, 23, 0), 15);
        Check.is("Promise 25: a row comes to b", x.tries(0, 1, 15, 0, 23, 0), 15);
        Check.is("Promise 25: nothing stays", x.all(NONE, 0), 0);
        Check.is("Promise 24: one cell", x.move(0, 1, 15, 23, 23), 1);
        Check.answers("Promise 21: all stand on it, of group", g -> x.crowd(383, g, 0), 5, 5, 5);
    }

    // As on a board every other cell is sea: all 192 others are alone, with sea at every side that is not at the edge.
    private static void mostParts() {
        DotSpreader x = whole();
        for (int cell = 0; cell < 384; cell++) {
            if ((cell / 24 + cell % 24) % 2 == 0) {
                x.flood(cell, true);
            }
        }
        Check.answers("Promise 7: of a board, what", w -> x.zone(0, w), 384, 192, 192, 728, 0, 192);
        Check.is("Promise 27: the first part", x.part(1), 0);
        Check.is("Promise 27: the last part", x.part(382), 191);
        Check.is("Promise 27: the sea is in none", x.part(383), NONE);
        Check.is("Promise 21: two dots on each cell", x.crowd(1, NONE, 0), 2);
        Check.is("Promise 22: apart", x.apart(0), 2);
        Check.is("Promise 35: corners of a board", x.hull(0, NONE), 6);
        Check.answers("Promise 35: its corners are sea", k -> x.hull(0, k), 1, 23, 359, 382, 360, 24, NONE);
        // Two corners of half a cell are missing.
        Check.is("Promise 36: twice its area", x.area(0), 688);
    }

    // The name has six letters; every other column is sea: columns 1, 3 .. 9 have one digit, 11 .. 23 two.
    private static void mostRuns() {
        StringBuilder text = new StringBuilder("size 24 16;zone abcdef people 1;");
        for (int row = 0; row < 16; row++) {
            text.append("row abcdef ").append(row).append(":0-23;");
        }
        DotSpreader x = Check.map(text.toString());
        for (int row = 0; row < 16; row++) {
            for (int column = 0; column < 24; column += 2) {
                x.flood(row * 24 + column, true);
            }
        }
        Check.is("Promise 7: runs in all", x.zone(0, 5), 192);
        Check.is("Promise 26: runs in a row", x.run(0, 15, NONE, false), 12);
        Check.answers("Promise 26: their columns", k -> x.run(0, 15, k, true), 1, 3, 5, 7, 9, 11, 13, 15, 17, 19, 21, 23, NONE);
        // 5 runs of 3 bytes, 7 of 5, 11 times ", ": 72; "row abcdef ", the row's digits, ": " and ";".
        Check.is("Promise 42: bytes", x.write(0), 16 * (72 + 11 + 2 + 1) + 10 + 12);
        Check.is("Promise 44: bytes", x.count(9), 1398);
        Check.is("Promise 43: the last", x.octet(1397), ';');
        Check.is("Promise 43: behind the last", x.octet(1398), NONE);
        Check.is("Term WRITTEN: the last line", Check.written(x, 1398 - 88),
                "row abcdef 15: 1-1, 3-3, 5-5, 7-7, 9-9, 11-11, 13-13, 15-15, 17-17, 19-19, 21-21, 23-23;");
    }

    // ---- 8 ZONES ----

    // Of 60 in each by 100 are carried: 60, 20 (a dot), 80, 40 (a dot), 0 (a dot), 60, 20 (a dot), 80.
    private static void eightZones() {
        StringBuilder text = new StringBuilder("size 8 2;");
        for (char name = 'a'; name <= 'h'; name++) {
            text.append("zone ").append(name).append(" people 60;row ").append(name);
            text.append(" 1:").append(name - 'a').append('-').append(name - 'a').append(';');
        }
        DotSpreader x = Check.map(text.toString());
        Check.is("Promise 44: eight zones", x.count(2), 8);
        Check.answers("Term DOTS: of zone", z -> x.dots(z, 0, 0), 0, 1, 0, 1, 1, 0, 1, 0);
        Check.answers("Term CARRIED: to zone", z -> x.carried(z, 0, 0), 0, 60, 20, 80, 40, 0, 60, 20);
        Check.is("Term LEFT: behind the eighth", x.left(0, 0), 80);
        Check.answers("Promise 23: off of zone", z -> x.off(z, 0), -60, 40, -60, 40, 40, -60, 40, -60);
        Check.answers("Promise 7: border of zone", z -> x.zone(z, 4), 1, 2, 2, 2, 2, 2, 2, 1);
        x.factor(2);
        Check.answers("Term DOTS: at level 1 of zone", z -> x.dots(z, 0, 1), 0, 0, 0, 1, 0, 0, 1, 0);
        Check.answers("Term CARRIED: at level 1 to zone", z -> x.carried(z, 0, 1), 0, 0, 1, 1, 0, 1, 1, 0);
        Check.is("Promise 39: the first and the last", x.joined(0, 7, 0), 1);
        Check.is("Promise 39: the last and the first, to which 60 are carried", x.joined(7, 0, 0), 1);
        Check.is("Promise 24: from the last to the first", x.move(7, 0, 1, 7, 7), 1);
        Check.is("Promise 10: all of them", x.lives(0, 0), 120);
    }

    // ---- the greatest numbers ----

    // Eight zones with all people that can be, of three groups; the last one alone has land, one cell.
    private static DotSpreader crowded() {
        StringBuilder text = new StringBuilder("size 24 16;groups 3;");
        for (char name = 'a'; name <= 'h'; name++) {
            text.append("zone ").append(name).append(" people 99999,99999,99999;");
        }
        DotSpreader x = Check.map(text.append("row h 15:23-23;").toString());
        x.unit(1);
        x.factor(10);
        return x;
    }

    private static void mostPeople() {
        DotSpreader x = crowded();
        Check.is("Promise 44: people of all", x.count(10), 2399976);
        Check.is("Term CARRIED: to the last", x.carried(7, 2, 0), 699993);
        Check.is("Promise 16: dots", x.dots(7, 2, 0), 799992);
        Check.is("Promise 23: off", x.off(7, 2), 699993);
        Check.is("Promise 19: all of a group", x.all(1, 0), 799992);
        Check.is("Promise 19: all", x.all(NONE, 0), 2399976);
        Check.is("Promise 18: left", x.left(0, 0), 0);
        Check.is("Promise 40: 1 fits", x.fits(2399976), 1);
        Check.is("Promise 40: 2 fits", x.fits(2399975), 2);
        // 799992 by 9999 are 80, so 240 of all groups; by 9877 are 80, by 9876 81.
        Check.is("Promise 40: 240", x.fits(240), 9877);
        Check.is("Promise 40: 239", x.fits(239), NONE);
        x.unit(9999);
        Check.is("Promise 16: by the greatest unit", x.dots(7, 0, 0), 80);
        Check.is("Promise 18: left by the greatest unit", x.left(0, 0), 72);
        Check.is("Promise 23: off by the greatest unit", x.off(7, 0), 699921);
    }

    private static void mostPeopleAtLevels() {
        DotSpreader x = crowded();
        Check.answers("Promise 16: dots at level", l -> x.dots(7, 0, l), 799992, 79999, 7999, 799, 79);
        Check.answers("Promise 18: left at level", l -> x.left(0, l), 0, 2, 9, 9, 9);
        Check.answers("Promise 19: all at level", l -> x.all(NONE, l), 2399976, 239997, 23997, 2397, 237);
        Check.is("Promise 41: the last level", x.scale(237), 4);
        Check.is("Promise 41: none", x.scale(236), NONE);
        Check.is("Promise 41: the first level", x.scale(2399976), 0);
        Check.is("Promise 41: the second level", x.scale(2399975), 1);
    }

    private static void mostPeoplesPlaces() {
        DotSpreader x = crowded();
        Check.is("Promise 20: the last dot", x.dot(7, 2, 0, 799991), 383);
        Check.refusesMissing("Promise 20: behind the last dot", () -> x.dot(7, 2, 0, 799992));
        Check.is("Promise 21: all on one cell", x.crowd(383, NONE, 0), 2399976);
        Check.is("Promise 21: of a group", x.crowd(383, 2, 0), 799992);
        Check.is("Promise 28: within 754 of the first cell", x.measure(0, 1, 0, 754), 2399976);
        Check.is("Promise 38: the last column", x.line(true, 23, 0), 2399976);
        Check.is("Promise 37: their middle", x.middle(NONE, 0), 383);
        Check.is("Promise 39: 99999 of a group at most, 599994 are carried to it", x.joined(7, 0, 0), 3 * 699993);
        Check.is("Promise 39: the first has them alone", x.joined(0, 7, 0), 3 * 99999);
        x.flood(383, true);
        Check.is("Promise 18: all are left", x.left(2, 0), 799992);
        Check.is("Promise 18: not at the level behind", x.left(2, 1), 0);
    }

    // ---- 99999 people ----

    // Two cells of a, one of them moves to b.
    private static DotSpreader halves(int first, int second) {
        return Check.map("size 2 2;zone a people " + first + ";zone b people " + second + ";row a 0:0-1;row b 1:0-0;");
    }

    private static void peopleStay() {
        DotSpreader x = halves(99998, 50000);
        Check.is("Promise 24: one cell", x.move(0, 1, 0, 1, 1), 1);
        Check.is("Term AN EDGE: 49999 go", x.lives(0, 0), 49999);
        Check.is("Term AN EDGE: 99999 stay", x.lives(1, 0), 99999);
        DotSpreader y = halves(99998, 50001);
        y.move(0, 1, 0, 1, 1);
        Check.is("Term AN EDGE: 49999 go though one does not stay", y.lives(0, 0), 49999);
        Check.is("Term AN EDGE: 99999 at most stay", y.lives(1, 0), 99999);
        DotSpreader z = halves(99999, 99999);
        z.move(0, 1, 0, 0, 1);
        Check.is("Term AN EDGE: all go though none stays", z.lives(0, 0), 0);
        Check.is("Term AN EDGE: there are no more than before", z.lives(1, 0), 99999);
        Check.is("Promise 44: people of all", z.count(10), 99999);
    }

    private static void peopleStayOfEachGroup() {
        DotSpreader x = Check.map("size 2 2;groups 3;zone a people 99999,10,0;zone b people 99999,99999,99999;"
                + "row a 0:0-1;row b 1:0-0;");
        x.unit(1);
        Check.is("Promise 25: tried first, level 0", x.tries(0, 1, 0, 1, 1, 0) > 0, true);
        Check.answers("Promise 25: nothing stays, group", g -> x.lives(0, g), 99999, 10, 0);
        x.move(0, 1, 0, 1, 1);
        Check.answers("Term AN EDGE: of the first stay, group", g -> x.lives(0, g), 50000, 5, 0);
        Check.answers("Term AN EDGE: 99999 of each group at most", g -> x.lives(1, g), 99999, 99999, 99999);
        x.people(1, 1, 99995);
        x.move(0, 1, 0, 0, 0);
        Check.answers("Term AN EDGE: the rest goes, group", g -> x.lives(0, g), 0, 0, 0);
        Check.answers("Term AN EDGE: as many as there is room for", g -> x.lives(1, g), 99999, 99999, 99999);
    }

    private static void peopleGoRoundedDown() {
        DotSpreader x = Check.map("size 4 2;zone a people 5;zone b people 0;row a 0:0-2;sea 0:2-2;");
        x.move(0, 1, 0, 1, 1);
        Check.is("Term AN EDGE: 5 times 1 by 2 cells of land", x.lives(1, 0), 2);
        Check.is("Term AN EDGE: what is over stays", x.lives(0, 0), 3);
        DotSpreader y = Check.map("size 24 16;zone a people 99999;zone b people 0;" + wholeMap("").substring(11));
        Check.is("Promise 24: a whole row", y.move(0, 1, 7, 0, 23), 24);
        Check.is("Term AN EDGE: 99999 times 24 by 384", y.lives(1, 0), 6249);
        Check.is("Term AN EDGE: the others stay", y.lives(0, 0), 93750);
        Check.is("Promise 24: half a row", y.move(0, 1, 0, 12, 23), 12);
        Check.is("Term AN EDGE: 93750 times 12 by 360", y.lives(1, 0), 6249 + 3125);
    }

    private static void joinedPeople() {
        DotSpreader x = halves(49999, 50000);
        x.unit(1);
        Check.is("Promise 39: 99999 of a group", x.joined(0, 1, 0), 99999);
        x.people(0, 0, 50000);
        Check.is("Promise 39: 99999 of a group at most", x.joined(0, 1, 0), 99999);
        Check.is("Promise 39: the other way round", x.joined(1, 0, 0), 99999);
        Check.is("Promise 39: nothing stays", x.count(10), 100000);
    }

    // ---- more DOTS than LAND has CELLS ----

    private static void moreDotsThanLand() {
        DotSpreader x = Check.map("size 3 2;zone a people 800;row a 0:0-2;");
        Check.answers("Promise 14: the order", k -> x.order(0, k), 1, 0, 2, NONE);
        Check.answers("Term DOT: modulo 3, dot", k -> x.dot(0, 0, 0, k), 1, 0, 2, 1, 0, 2, 1, 0);
        Check.answers("Term CROWD: of cell", c -> x.crowd(c, NONE, 0), 3, 3, 2, 0, 0, 0);
        Check.refusesMissing("Promise 20: no dot 8", () -> x.dot(0, 0, 0, 8));
    }

    // At k times 3 and g: with 3 cells each group has one cell, with 4 or 2 each comes to all.
    private static void moreDotsThanLandOfGroups() {
        DotSpreader x = Check.map("size 4 2;groups 3;zone a people 4,4,4;row a 0:0-2;");
        x.unit(1);
        Check.answers("Term DOT: of group 0", k -> x.dot(0, 0, 0, k), 1, 1, 1, 1);
        Check.answers("Term DOT: of group 1", k -> x.dot(0, 1, 0, k), 0, 0, 0, 0);
        Check.answers("Term DOT: of group 2", k -> x.dot(0, 2, 0, k), 2, 2, 2, 2);
        DotSpreader y = Check.map("size 4 2;groups 3;zone a people 5,5,5;row a 0:0-3;");
        y.unit(1);
        Check.answers("Promise 14: the order", k -> y.order(0, k), 1, 3, 0, 2);
        Check.answers("Term DOT: of group 0 at 0, 3, 2, 1, 0", k -> y.dot(0, 0, 0, k), 1, 2, 0, 3, 1);
        Check.answers("Term DOT: of group 1 at 1, 0, 3, 2, 1", k -> y.dot(0, 1, 0, k), 3, 1, 2, 0, 3);
        Check.answers("Term DOT: of group 2 at 2, 1, 0, 3, 2", k -> y.dot(0, 2, 0, k), 0, 3, 1, 2, 0);
        Check.answers("Term CROWD: of cell", c -> y.crowd(c, NONE, 0), 4, 4, 3, 4);
        Check.answers("Term CROWD: of group 2", c -> y.crowd(c, 2, 0), 2, 1, 1, 1);
        DotSpreader z = Check.map("size 2 2;groups 2;zone a people 3,2;row a 0:0-1;");
        z.unit(1);
        Check.answers("Term CROWD: two groups on two cells, the first", c -> z.crowd(c, 0, 0), 3, 0);
        Check.answers("Term CROWD: two groups on two cells, the second", c -> z.crowd(c, 1, 0), 0, 2);
    }

    private static void oneDotMoreThanLand() {
        DotSpreader x = Check.map("size 3 2;zone a people 300;row a 0:0-2;");
        Check.answers("Term CROWD: as many as cells", c -> x.crowd(c, NONE, 0), 1, 1, 1);
        x.people(0, 0, 400);
        Check.answers("Term CROWD: one more, on the first of the order", c -> x.crowd(c, NONE, 0), 1, 2, 1);
        x.flood(1, true);
        Check.answers("Promise 14: the order then", k -> x.order(0, k), 0, 2, NONE);
        Check.answers("Term CROWD: on less land", c -> x.crowd(c, NONE, 0), 2, 0, 2);
    }
}
