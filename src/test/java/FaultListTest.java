/**
 * Promise 4 and 5 with the terms THE MAP and THE FAULT, sentence by sentence: each bound of a text on both sides, and each
 * case that THE FAULT lists. A '^' stands ahead of the byte that is the fault; a text without one is right.
 */
public final class FaultListTest {
    private static final int NONE = DotSpreader.NONE;
    private static final String SIZE = "size 4 3;";
    // . A A .   cells 1 and 2 of row 0 are the zone a's
    private static final String TWO = SIZE + "zone a people 1;zone b people 2;row a 0:1-2;";
    private static final String EIGHT = SIZE + "zone a people 1;zone b people 1;zone c people 1;zone d people 1;"
            + "zone e people 1;zone f people 1;zone g people 1;zone h people 1;";
    private static final String[] WORDS = {"size", "groups", "zone", "people", "row", "sea"};

    public static void main(String[] args) {
        bytes();
        lines();
        blanks();
        signsThatAreNone();
        wordsAndNumbers();
        digits();
        names();
        reservedNames();
        widths();
        heights();
        sizeFirst();
        groupNumbers();
        groupsPlace();
        zoneNumbers();
        people();
        rows();
        columns();
        seas();
        tooLong();
        outOfBounds();
        cutOff();
        namesTold();
        ninthZone();
        secondWords();
        wordsAlike();
        severalFaults();
        othersFirstCell();
        othersLaterCell();
        ownCells();
        moreMustCome();
        withoutSize();
        latestFault();
        Check.done("FaultListTest");
    }

    private static void right(String sentence, String text) {
        Check.fault(sentence, text);
    }

    private static void wrong(String sentence, String marked) {
        Check.is(sentence + ": the test marks a byte", marked.indexOf('^') >= 0, true);
        Check.fault(sentence, marked);
    }

    // ---- THE MAP is a text ----

    private static void bytes() {
        String what = "Term THE MAP: at most 400 bytes";
        String text = "size 2 2;sea 1:1-1;";
        right(what, text + " ".repeat(400 - text.length()));
        right(what, " ".repeat(400 - text.length()) + text);
        wrong(what, " ".repeat(400 - text.length()) + text.substring(0, text.length() - 1) + "^*");
        DotSpreader x = Check.map(" ".repeat(400 - text.length()) + text);
        Check.is(what + ": the last ones count", x.cell(3, 1), 1);
    }

    private static void lines() {
        String what = "Term THE MAP: { LINE ; }";
        right(what, "size 2 2;");
        right(what, SIZE + "groups 1;zone a people 1;row a 0:0-0;sea 0:0-0;");
        wrong(what, "^;");
        wrong(what, SIZE + "^;");
        wrong(what, SIZE + "groups 1;^;");
        wrong(what, SIZE + "^people a;");
        wrong(what, SIZE + "^a;");
        wrong(what, SIZE + "^1;");
        wrong(what, SIZE + "^:");
        wrong(what, SIZE + "groups 1 ^zone a people 1;");
        wrong(what, SIZE + "groups 1^.");
        wrong(what, SIZE + "groups ^a;");
        wrong(what, SIZE + "zone ^1 people 1;");
        wrong(what, SIZE + "zone a ^1;");
        wrong(what, SIZE + "zone a ^peopla 1;");
        wrong(what, SIZE + "zone a people ^a;");
        wrong(what, SIZE + "zone a people 1^:");
        wrong(what, TWO + "row ^1:0-0;");
        wrong(what, TWO + "row b ^b:0-0;");
        wrong(what, TWO + "row b 1^;");
        wrong(what, TWO + "row b 1 ^0-0;");
        wrong(what, TWO + "row b 1:^:");
        wrong(what, TWO + "row b 1:0^:0;");
        wrong(what, TWO + "row b 1:0 ^0;");
        wrong(what, TWO + "row b 1:0-^-0;");
        wrong(what, TWO + "row b 1:0-0^:");
        wrong(what, TWO + "row b 1:0-0,^,");
        wrong(what, TWO + "sea ^b 0:0-0;");
        wrong(what, TWO + "sea 1^,0-0;");
    }

    private static void blanks() {
        String what = "Term BLANKS: may stand between all";
        String[] tokens = {"size", "3", "2", ";", "groups", "2", ";", "zone", "ab", "people", "17", ",", "28", ";",
            "row", "ab", "1", ":", "0", "-", "0", ",", "2", "-", "2", ";", "sea", "0", ":", "1", "-", "1", ";"};
        for (String blank : new String[] {"\t", "\n", " ", " \n\t ", "\t\t"}) {
            String text = blank + String.join(blank, tokens) + blank;
            right(what, text);
            DotSpreader x = Check.map(text);
            Check.is(what + ": the width", x.count(0), 3);
            Check.is(what + ": the second group", x.lives(0, 1), 28);
            Check.is(what + ": the second run", x.cell(5, 0), 0);
            Check.is(what + ": the sea", x.cell(1, 1), 1);
        }
        right(what + ", none need to", "size3 2;groups2;zone ab people17,28;row ab1:0-0,2-2;sea0:1-1;");
        wrong(what + ", but not within a word", "^si ze 2 2;");
        wrong(what + ", but not within a name", SIZE + "zone a ^b people 1;");
        wrong(what + ", but not within a number", SIZE + "zone a people 1 ^7;");
    }

    private static void signsThatAreNone() {
        for (int sign : new int[] {0, 1, 8, 11, 12, 13, 31, 33, 127, 128, 160, 255}) {
            String what = "Term BLANKS: 9, 10, 32 alone, so not " + sign;
            String s = String.valueOf((char) sign);
            wrong(what, "^" + s + "size 2 2;");
            wrong(what, "size^" + s + " 2 2;");
            wrong(what, "size 2^" + s + " 2;");
            wrong(what, "size 2 2^" + s + ";");
            wrong(what, "size 2 2;^" + s);
        }
        for (char sign : new char[] {'`', '{', 'A', 'Z', '@', '[', (char) ('a' + 128)}) {
            wrong("Term NAMES: a to z alone, so not " + sign, SIZE + "zone ^" + sign + " people 1;");
            wrong("Term NAMES: a to z alone, so not " + sign, SIZE + "zone b^" + sign + " people 1;");
        }
        for (char sign : new char[] {'/', ':', (char) ('0' + 128), '+', '.'}) {
            wrong("Term N: digits alone, so not " + sign, SIZE + "zone a people ^" + sign + ";");
            wrong("Term N: digits alone, so not " + sign, SIZE + "zone a people 1^" + sign + ";");
        }
        right("Term NAMES: a and z are letters", SIZE + "zone az people 1;");
        right("Term N: 0 and 9 are digits", SIZE + "zone a people 90;");
    }

    private static void wordsAndNumbers() {
        String what = "Term THE MAP: words are as many letters as stand there";
        wrong(what, "^sizes 2 2;");
        wrong(what, SIZE + "^groupsa 1;");
        wrong(what, SIZE + "^zonea people 1;");
        wrong(what, SIZE + "zone a ^peoplea 1;");
        wrong(what, SIZE + "zone ^apeople 1;");
        wrong(what, TWO + "row ^ab 1:0-0;");
        wrong(what, TWO + "^seas 1:0-0;");
        wrong(what, TWO + "^rowb 1:0-0;");
        right(what, SIZE + "zone sizes people 1;zone seas people 1;zone ro people 1;row seas 0:0-0;");
        what = "Term THE MAP: numbers are as many digits as stand there";
        wrong(what, "size 22^;");
        wrong(what, "size 2 ^22;");
        wrong(what, TWO + "row b ^11:0-0;");
        wrong(what, TWO + "row b 1:^00011-0;");
    }

    // ---- N and NAMES ----

    private static void digits() {
        String what = "Term N: 1 to 5 digits";
        DotSpreader x = Check.map("size 00004 00003;groups 00002;zone a people 00000,00009;row a 00002:00001-00003;");
        Check.is(what + ": WIDTH", x.count(0), 4);
        Check.is(what + ": HEIGHT", x.count(1), 3);
        Check.is(what + ": GROUPS", x.count(3), 2);
        Check.is(what + ": people", x.lives(0, 1), 9);
        Check.is(what + ": CELLS", x.zone(0, 0), 3);
        wrong(what, "size ^;");
        wrong(what, "size ^000004 3;");
        wrong(what, "size 4 ^000003;");
        wrong(what, SIZE + "groups ^;");
        wrong(what, SIZE + "groups ^000002;");
        wrong(what, SIZE + "zone a people ^000000;");
        wrong(what, SIZE + "groups 2;zone a people 1,^000000;");
        wrong(what, TWO + "row b ^000001:0-0;");
        wrong(what, TWO + "row b 1:^000000-0;");
        wrong(what, TWO + "row b 1:0-^000000;");
        wrong(what, TWO + "sea ^000001:0-0;");
        wrong(what, SIZE + "zone a people ^" + "0".repeat(300) + "1;");
        // By wrap-around 4294967300 would be 4, and 4294967297 1.
        wrong(what, "size ^4294967300 3;");
        wrong(what, SIZE + "zone a people ^4294967297;");
    }

    private static void names() {
        String what = "Term NAMES: 1 to 6 letters";
        right(what, SIZE + "zone a people 1;row a 0:0-0;");
        right(what, SIZE + "zone abcdef people 1;row abcdef 0:0-0;");
        wrong(what, SIZE + "zone ^;");
        wrong(what, SIZE + "zone ^abcdefg people 1;");
        wrong(what, SIZE + "zone ^" + "a".repeat(200) + " people 1;");
        wrong(what, SIZE + "zone abcdef people 1;row ^abcdefg 0:0-0;");
        wrong(what, SIZE + "zone abcdef people 1;row ^abcde 0:0-0;");
    }

    private static void reservedNames() {
        for (String word : WORDS) {
            String what = "Term NAMES: none of " + word;
            wrong(what, SIZE + "zone ^" + word + " people 1;");
            wrong(what, SIZE + "zone ^" + word);
            wrong(what + ", which is none told", TWO + "row ^" + word + " 0:0-0;");
            right(what + " but one letter less", SIZE + "zone " + word.substring(1) + " people 1;");
            if (word.length() < 6) {
                right(what + " but one letter more", SIZE + "zone " + word + "s people 1;");
            } else {
                wrong(what + " nor one with seven letters", SIZE + "zone ^" + word + "s people 1;");
            }
        }
    }

    // ---- the bounds of each LINE ----

    private static void widths() {
        String what = "Term size: WIDTH 2 to 24";
        right(what, "size 2 2;sea 0:1-1;");
        right(what, "size 24 2;sea 0:23-23;");
        wrong(what, "size ^1 2;");
        wrong(what, "size ^0 2;");
        wrong(what, "size ^25 2;");
        wrong(what, "size ^99999 2;");
    }

    private static void heights() {
        String what = "Term size: HEIGHT 2 to 16";
        right(what, "size 2 2;sea 1:0-0;");
        right(what, "size 2 16;sea 15:0-0;");
        wrong(what, "size 2 ^1;");
        wrong(what, "size 2 ^0;");
        wrong(what, "size 2 ^17;");
        wrong(what, "size 2 ^24;");
        wrong(what, "size 2 ^99999;");
    }

    private static void sizeFirst() {
        String what = "Term size: the first LINE, and it alone";
        for (String word : WORDS) {
            if (!word.equals("size")) {
                wrong(what, "^" + word + " 1;size 2 2;");
            }
        }
        wrong(what, "^zone a people 1;");
        wrong(what, "size 2 2;^size 2 2;");
        wrong(what, "size 2 2;groups 2;^size 2 2;");
        wrong(what, TWO + "sea 0:0-0;^size 4 3;");
        wrong(what, "size 2 2;^size");
    }

    private static void groupNumbers() {
        String what = "Term groups: 1 to 3";
        right(what, SIZE + "groups 1;zone a people 1;");
        right(what, SIZE + "groups 3;zone a people 1,2,3;");
        wrong(what, SIZE + "groups ^0;");
        wrong(what, SIZE + "groups ^4;");
        wrong(what, SIZE + "groups ^99999;");
        what = "Term groups: 1 without";
        right(what, SIZE + "zone a people 1;");
        wrong(what, SIZE + "zone a people 1^,2;");
    }

    private static void groupsPlace() {
        String what = "Term groups: once, ahead of all zones";
        right(what, SIZE + "sea 0:0-0;groups 2;sea 1:0-0;zone a people 1,2;");
        wrong(what, SIZE + "groups 2;^groups 2;");
        wrong(what, SIZE + "groups 1;^groups 1;");
        wrong(what, SIZE + "groups 2;sea 0:0-0;^groups 3;");
        wrong(what, SIZE + "zone a people 1;^groups 1;");
        wrong(what, SIZE + "groups 1;zone a people 1;^groups 1;");
        wrong(what, TWO + "^groups 1;");
    }

    private static void zoneNumbers() {
        String what = "Term ZONES: at most 8";
        right(what, EIGHT);
        right(what, EIGHT + "row h 2:3-3;");
        Check.is("Promise 4: how many ZONES, 8", Check.map(EIGHT).count(2), 8);
        wrong(what, EIGHT + "^zone i people 1;");
        DotSpreader x = new DotSpreader();
        Check.feed(x, EIGHT);
        Check.is("Promise 4: how many ZONES, told by read()", x.read(), 8);
        Check.feed(x, SIZE);
        Check.is("Promise 4: how many ZONES, none", x.read(), 0);
    }

    private static void people() {
        String what = "Term ZONES: people 0 to 99999";
        right(what, SIZE + "zone a people 0;");
        right(what, SIZE + "zone a people 99999;");
        right(what, SIZE + "groups 3;zone a people 0,99999,0;");
        wrong(what, SIZE + "zone a people ^100000;");
        wrong(what, SIZE + "groups 2;zone a people 1,^100000;");
        wrong(what, SIZE + "zone a people ^-1;");
        what = "Term ZONES: people, as many numbers as GROUPS";
        wrong(what, SIZE + "groups 2;zone a people 1^;");
        wrong(what, SIZE + "groups 3;zone a people 1,2^;");
        wrong(what, SIZE + "groups 3;zone a people 1^;");
        wrong(what, SIZE + "groups 2;zone a people 1,2^,3;");
        wrong(what, SIZE + "groups 3;zone a people 1,2,3^,4;");
        wrong(what, SIZE + "groups 1;zone a people 1^,2;");
        wrong(what, SIZE + "zone a people^;");
    }

    private static void rows() {
        String what = "Term row: 0 to HEIGHT less 1";
        right(what, TWO + "row b 0:0-0;");
        right(what, TWO + "row b 2:0-0;");
        wrong(what, TWO + "row b ^3:0-0;");
        wrong(what, TWO + "row b ^99999:0-0;");
        right(what, TWO + "sea 0:0-0;");
        right(what, TWO + "sea 2:0-0;");
        wrong(what, TWO + "sea ^3:0-0;");
        wrong(what, TWO + "sea ^99999:0-0;");
        right(what, "size 2 16;zone a people 1;row a 15:0-0;");
        wrong(what, "size 2 16;zone a people 1;row a ^16:0-0;");
    }

    private static void columns() {
        String what = "Term row: columns 0 to WIDTH less 1";
        right(what, TWO + "row b 1:0-3;");
        right(what, TWO + "row b 1:3-3;");
        wrong(what, TWO + "row b 1:^4-4;");
        wrong(what, TWO + "row b 1:0-^4;");
        wrong(what, TWO + "row b 1:0-0,^4-4;");
        wrong(what, TWO + "row b 1:0-0,0-^4;");
        right(what, "size 24 2;zone a people 1;row a 0:23-23;");
        wrong(what, "size 24 2;zone a people 1;row a 0:^24-24;");
        wrong(what, "size 24 2;zone a people 1;row a 0:23-^24;");
        what = "Term row: the second column not below the first";
        right(what, TWO + "row b 1:2-2;");
        wrong(what, TWO + "row b 1:2-^1;");
        wrong(what, TWO + "row b 1:3-^0;");
        wrong(what, TWO + "row b 1:0-0,3-^2;");
    }

    private static void seas() {
        String what = "Term sea: columns 0 to WIDTH less 1";
        right(what, TWO + "sea 1:0-3;");
        wrong(what, TWO + "sea 1:^4-4;");
        wrong(what, TWO + "sea 1:0-^4;");
        wrong(what, TWO + "sea 1:2-^1;");
        what = "Term sea: also of ZONES";
        right(what, TWO + "sea 0:0-3;");
        right(what + ", and more than once", TWO + "sea 0:0-3,1-2;sea 0:1-1;");
        DotSpreader x = Check.map(TWO + "sea 0:0-1;row b 0:0-0;");
        Check.is(what + ": a's cell is sea", x.cell(1, 1), 1);
        Check.is(what + ": and a's still", x.cell(1, 0), 0);
        Check.is("Term row: sea may be a ZONE's", x.cell(0, 0), 1);
        Check.is("Term row: and is sea still", x.cell(0, 1), 1);
    }

    // ---- THE FAULT, case by case ----

    private static void tooLong() {
        String what = "Term THE FAULT: one too long, at its first byte";
        wrong(what, SIZE + "zone ^abcdefg people 1;");
        wrong(what, "size ^000002 2;");
        wrong(what, SIZE + "zone a people ^123456;");
        wrong(what, TWO + "row b 1:0-^000002;");
    }

    private static void outOfBounds() {
        String what = "Term THE FAULT: out of bounds, at its first byte";
        wrong(what, "size 24 ^99;");
        wrong(what, "size ^25 99;");
        wrong(what, SIZE + "groups ^10;");
        wrong(what, TWO + "row b ^10:0-0;");
        wrong(what, TWO + "row b 1:^10-0;");
        wrong(what, TWO + "row b 1:2-^10;");
    }

    private static void cutOff() {
        String what = "Term THE FAULT: one that the end cuts off, at its first byte";
        for (String word : new String[] {"s", "si", "siz"}) {
            wrong(what, "^" + word);
            wrong(what, " \n^" + word);
        }
        for (String word : new String[] {"g", "group", "z", "zon", "r", "ro", "s", "se", "siz"}) {
            wrong(what, TWO + "^" + word);
        }
        wrong(what, SIZE + "zone a ^p");
        wrong(what, SIZE + "zone a ^peopl");
        wrong(what, SIZE + "zone ab people 1;row ^a");
        wrong(what, "size ^1");
        wrong(what, "size 2 ^1");
        wrong(what, TWO + "row b 1:2-^1");
    }

    private static void namesTold() {
        String what = "Term THE FAULT: a NAME told already";
        wrong(what, SIZE + "zone a people 1;zone ^a people 2;");
        wrong(what, SIZE + "zone a people 1;zone ^a");
        wrong(what, TWO + "zone ^b people 2;");
        right(what + " in part alone is another", SIZE + "zone ab people 1;zone a people 1;zone abc people 1;");
        what = "Term THE FAULT: a NAME not told yet";
        wrong(what, SIZE + "row ^a 0:0-0;");
        wrong(what, SIZE + "row ^a 0:0-0;zone a people 1;");
        wrong(what, TWO + "row ^c 0:0-0;");
        wrong(what, TWO + "row ^ba 9:9-9;");
        wrong(what, SIZE + "zone a people 1;row ^b 0:0-0;zone b people 1;");
    }

    private static void ninthZone() {
        String what = "Term THE FAULT: a ninth zone at that word";
        wrong(what, EIGHT + "^zone i people 1;");
        wrong(what, EIGHT + "^zone a people 1;");
        wrong(what, EIGHT + "^zone");
        wrong(what, EIGHT + "row a 0:0-0;sea 1:1-1;^zone i");
        wrong(what + ", if it is that word", EIGHT + "^zones i people 1;");
        wrong(what + ", ahead of what is wrong behind it", EIGHT + "^zone 1;");
    }

    private static void secondWords() {
        wrong("Term THE FAULT: a second groups at that word", SIZE + "groups 1;^groups 9;");
        wrong("Term THE FAULT: a second groups at that word", SIZE + "groups 1;^groups");
        wrong("Term THE FAULT: a second size at that word", SIZE + "^size 9;");
        wrong("Term THE FAULT: a second size at that word", SIZE + "^size");
        wrong("Term THE FAULT: groups behind a zone at that word", SIZE + "zone a people 1;^groups 9;");
        wrong("Term THE FAULT: groups behind a zone at that word", SIZE + "zone a people 1;^groups");
    }

    private static void wordsAlike() {
        String what = "Term THE MAP: a word with one other letter is another";
        String[] lines = {"^size 2 2;", SIZE + "^groups 1;", SIZE + "^zone a people 1;", SIZE + "zone a ^people 1;",
            TWO + "^row a 0:1-1;", TWO + "^sea 0:0-0;"};
        for (int k = 0; k < WORDS.length; k++) {
            int at = lines[k].indexOf('^') + 1;
            for (int letter = 0; letter < WORDS[k].length(); letter++) {
                StringBuilder text = new StringBuilder(lines[k]);
                text.setCharAt(at + letter, 'x');
                wrong(what, text.toString());
            }
        }
        right("Term NAMES: names with one other letter are others", SIZE + "zone abc people 1;zone xbc people 1;"
                + "zone axc people 1;zone abx people 1;row xbc 0:0-0;row axc 0:1-1;row abx 0:2-2;row abc 0:3-3;");
    }

    private static void severalFaults() {
        String what = "Term THE FAULT: of several the first";
        String behind = ";x";
        wrong(what, "^x 4 3" + behind);
        wrong(what, "^1" + behind);
        wrong(what, "^4 3" + behind);
        wrong(what, "size ^99 99" + behind);
        wrong(what, "size 4^,3" + behind);
        wrong(what, SIZE + "groups ^9" + behind);
        wrong(what, SIZE + "groups 1;^groups 9" + behind);
        wrong(what, SIZE + "zone ^9 people 999999" + behind);
        wrong(what, SIZE + "zone ^people people 1" + behind);
        wrong(what, SIZE + "zone a ^9" + behind);
        wrong(what, SIZE + "zone a people ^999999,999999" + behind);
        wrong(what, SIZE + "groups 2;zone a people 1^" + behind);
        wrong(what, SIZE + "groups 2;zone a people 1^:2" + behind);
        wrong(what, SIZE + "groups 2;zone a people ^999999" + behind);
        wrong(what, TWO + "row ^1:0-0" + behind);
        wrong(what, TWO + "row ^x 9:9-9" + behind);
        wrong(what, TWO + "row b ^9:9-9" + behind);
        wrong(what, TWO + "row b 1 ^0-9" + behind);
        wrong(what, TWO + "row b 1:^9-9" + behind);
        wrong(what, TWO + "row b 1:0 ^9" + behind);
        wrong(what, TWO + "row b 1:0-^9,9-9" + behind);
        wrong(what, TWO + "row b 0:^0-3,9-9" + behind);
        wrong(what, TWO + "sea ^9:9-9" + behind);
        wrong(what, TWO + "sea 1:0-0,^9-9" + behind);
        wrong(what, EIGHT + "^zone a people 999999" + behind);
        wrong(what, TWO + "^x;" + TWO);
    }

    private static void othersFirstCell() {
        String what = "Term THE FAULT: another ZONE's CELL, the RUN's first, ahead of what is wrong behind it";
        wrong(what, TWO + "row b 0:^1-1;");
        wrong(what, TWO + "row b 0:^2-3;");
        wrong(what, TWO + "row b 0:^2-1;");
        wrong(what, TWO + "row b 0:^2-4;");
        wrong(what, TWO + "row b 0:^2-000003;");
        wrong(what, TWO + "row b 0:^2-;");
        wrong(what, TWO + "row b 0:^2-");
        wrong(what, TWO + "row b 0:^2;");
        wrong(what, TWO + "row b 0:^2");
        wrong(what, TWO + "row b 0:^2 :");
        wrong(what, TWO + "row b 0:0-0,^1 x");
        wrong(what, TWO + "sea 0:0-3;row b 0:^1-1;");
    }

    private static void othersLaterCell() {
        String what = "Term THE FAULT: another ZONE's CELL behind the RUN's first, at the RUN's first number";
        wrong(what, TWO + "row b 0:^0-1;");
        wrong(what, TWO + "row b 0:^0-2;");
        wrong(what, TWO + "row b 0:^0-3;");
        wrong(what, TWO + "row b 0:^00000-1");
        wrong(what, TWO + "row b 0:^0-1 x");
        wrong(what, TWO + "row b 0:3-3, ^0-1;");
        what = "Term THE FAULT: a RUN that is none is wrong where it is none, if its first CELL is fine";
        wrong(what, TWO + "row b 0:0^;");
        wrong(what, TWO + "row b 0:0^,1-1;");
        wrong(what, TWO + "row b 0:0-^4;");
        wrong(what, TWO + "row b 0:0-^000001;");
        wrong(what, TWO + "row b 0:0-^x");
        wrong(what, TWO + "row b 0:3-^2;");
        // The two ends are b's own, a's cells lie between them.
        wrong("Term THE FAULT: another ZONE's CELL between two of its own", TWO + "row b 0:0-0,3-3;row b 0:^0-3;");
    }

    private static void ownCells() {
        String what = "Term row: a CELL that is the ZONE's already";
        right(what, TWO + "row a 0:1-2;");
        right(what, TWO + "row a 0:0-3;");
        right(what, TWO + "row b 1:0-1,1-2,0-3;");
        Check.is(what + " counts once", Check.map(TWO + "row a 0:1-3,2-2;").zone(0, 0), 3);
        right("Term row: in another ROW the same columns", TWO + "row b 1:1-2;");
    }

    private static void moreMustCome() {
        String what = "Term THE FAULT: the text's length, if more must come";
        for (String text : new String[] {"size", "size 4", "size 4 3", SIZE + "groups", SIZE + "groups 2", SIZE + "zone",
            SIZE + "zone a", SIZE + "zone a people", SIZE + "zone a people 1", SIZE + "groups 2;zone a people 1",
            SIZE + "groups 2;zone a people 1,", SIZE + "groups 2;zone a people 1,2", TWO + "row", TWO + "row b",
            TWO + "row b 1", TWO + "row b 1:", TWO + "row b 1:0", TWO + "row b 1:0-", TWO + "row b 1:0-0",
            TWO + "row b 1:0-0,", TWO + "sea", TWO + "sea 1", TWO + "sea 1:", TWO + "sea 1:0", TWO + "sea 1:0-",
            TWO + "sea 1:0-0", TWO + "sea 1:0-0,", SIZE + "row"}) {
            wrong(what, text + "^");
            wrong(what + ", blanks too", text + " ^");
            wrong(what + ", blanks too", text + "\n\t  ^");
        }
        right("Term THE FAULT: none, where no more must come", TWO);
        right("Term THE FAULT: none, where no more must come", TWO + " \n");
    }

    private static void withoutSize() {
        String what = "Term THE FAULT: the text's length, a text without size, too";
        wrong(what, "^");
        wrong(what, " ^");
        wrong(what, "\n\t \n^");
        wrong(what, " ".repeat(400) + "^");
    }

    private static void latestFault() {
        DotSpreader x = new DotSpreader();
        Check.is("Promise 5: NONE ahead of any read()", x.fault(), NONE);
        Check.feed(x, "size 2 9999");
        Check.is("Promise 5: NONE, though a wrong text has come", x.fault(), NONE);
        Check.refusesNumber("Promise 4: the text is wrong", x::read);
        Check.is("Promise 5: of the latest read()", x.fault(), 7);
        Check.is("Promise 5: again", x.fault(), 7);
        Check.feed(x, "size 2 2;");
        Check.is("Promise 5: not of a text that has come since", x.fault(), 7);
        x.read();
        Check.is("Promise 5: NONE without one", x.fault(), NONE);
        Check.feed(x, "size 2");
        Check.refusesNumber("Promise 4: wrong again", x::read);
        Check.is("Promise 5: of the latest of several", x.fault(), 6);
        Check.refusesNumber("Promise 4: the TAPE is used up", x::read);
        Check.is("Promise 5: of no bytes", x.fault(), 0);
    }
}
