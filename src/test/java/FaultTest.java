/** Promises 2 to 5: the tape, the text and its faults. */
public final class FaultTest {
    private static final Class<IllegalArgumentException> ILLEGAL = IllegalArgumentException.class;
    private static final String TWO = "size 4 3;zone a people 1;zone b people 2;row a 0:1-2;";

    public static void main(String[] args) {
        tape();
        reading();
        cutTexts();
        rightTexts();
        sizes();
        groups();
        zones();
        rows();
        runsOfOthers();
        seas();
        ends();
        Check.done("FaultTest");
    }

    private static void fault(String marked) {
        Check.fault("THE FAULT", marked);
    }

    private static void tape() {
        DotSpreader x = new DotSpreader();
        Check.is("end(1) of an empty tape", x.end(1), false);
        Check.is("end(-1)", x.end(-1), false);
        Check.is("end(0) of an empty tape", x.end(0), true);
        for (int k = 1; k <= 20; k++) {
            Check.is("feed " + k, x.feed(1, 2, 3, 4, 5), 20 * k);
        }
        Check.is("feed beyond 400", x.feed(1, 2, 3, 4, 5), DotSpreader.NONE);
        Check.is("end(401)", x.end(401), false);
        Check.is("end(-1) of a full tape", x.end(-1), false);
        Check.is("end(400)", x.end(400), true);
        Check.is("end(381)", x.end(381), true);
        Check.is("feed behind 381", x.feed(1, 2, 3, 4, 5), DotSpreader.NONE);
        Check.is("end(382) of 381", x.end(382), false);
        Check.is("end(380)", x.end(380), true);
        Check.is("feed behind 380", x.feed(1, 2, 3, 4, 5), 400);
        Check.is("end(Integer.MAX_VALUE)", x.end(Integer.MAX_VALUE), false);
        Check.is("end(Integer.MIN_VALUE)", x.end(Integer.MIN_VALUE), false);
        fault("^" + (char) 128);
        fault("^" + (char) 0);
    }

    private static void reading() {
        DotSpreader x = new DotSpreader();
        Check.is("fault() at first", x.fault(), DotSpreader.NONE);
        Check.refuses("read() of nothing", ILLEGAL, x::read);
        Check.is("fault() of nothing", x.fault(), 0);
        Check.feed(x, "size 5 6;zone q people 77;");
        Check.is("read()", x.read(), 1);
        Check.is("fault() of a right text", x.fault(), DotSpreader.NONE);
        Check.refuses("read() again: the tape is used up", ILLEGAL, x::read);
        Check.is("the map stays", x.count(0) * 100 + x.count(1) * 10 + x.count(2), 561);
        Check.feed(x, "size 9 9;groups 3;zone r people 1,2,3;row r 0:0-9;");
        Check.refuses("read() of a wrong text", ILLEGAL, x::read);
        Check.is("its fault", x.fault(), 48);
        Check.is("the width stays", x.count(0), 5);
        Check.is("the groups stay", x.count(3), 1);
        Check.is("the people stay", x.lives(0, 0), 77);
        Check.is("the name stays", x.name(0, 0), 'q');
        Check.is("the tape is used up by a wrong text too", x.end(1), false);
        Check.feed(x, "size 2 2;");
        Check.is("read() of no zones", x.read(), 0);
        Check.is("fault() after it", x.fault(), DotSpreader.NONE);
        Check.is("no groups told are 1", x.count(3), 1);
        Check.is("cells", x.count(6), 4);
        Check.is("what comes by pieces", x.feed(0x73697a65, 0x20332034, 0x3b000000, 0, 0), 20);
        Check.is("end(9)", x.end(9), true);
        Check.is("read() of it", x.read(), 0);
        Check.is("its size", x.count(0) * 10 + x.count(1), 34);
    }

    /** What end() cut off must not be looked at, nor what is behind the tape's last byte. */
    private static void cutTexts() {
        String text = "size 2 2;zone ab people 17;row ab 1:0-0,1-1;";
        for (int length = 0; length <= text.length(); length++) {
            DotSpreader cut = new DotSpreader();
            Check.feed(cut, text);
            cut.end(length);
            int fault = DotSpreader.NONE;
            try {
                cut.read();
            } catch (IllegalArgumentException e) {
                fault = cut.fault();
            }
            Check.is("'" + text + "' cut at " + length, fault, Check.faultOf(text.substring(0, length)));
        }
        String blanks = " ".repeat(400 - text.length());
        fault(text + blanks);
        fault(blanks + text.substring(0, text.length() - 1) + " ^");
        fault(blanks + " " + text.substring(0, text.length() - 1) + "^");
        fault("size 2 2;zone ab ^" + "a".repeat(383));
        fault("size 2 2;zone ab people ^" + "1".repeat(376));
        fault(" ".repeat(396) + "size^");
        fault(" ".repeat(400) + "^");
    }

    private static void rightTexts() {
        fault("size 2 2;");
        fault("size 24 16;");
        fault("size00024 00016;");
        fault("\t\n size \t24\n16 ; \n");
        fault("size2 2;groups3;zone abcdef people0,99999,00001;row abcdef1:0-0,1-1;sea1:0-1;");
        fault("size 2 2;zone zones people 1;zone rows people 1;row zones 0:0-0;row rows 0:1-1;");
        fault("size 2 2;sea 0:0-1;groups 1;sea 1:0-0;zone a people 0;row a 0:0-1;row a 0:0-1,0-0;");
        fault("size 2 2;zone a people 1;zone b people 1;zone c people 1;zone d people 1;zone e people 1;"
                + "zone f people 1;zone g people 1;zone h people 1;");
    }

    private static void sizes() {
        fault("^");
        fault("  ^");
        fault(" ^;size 2 2;");
        fault("^zone a people 1;");
        fault("^siz 2 2;");
        fault("^sizes 2 2;");
        fault("^Size 2 2;");
        fault("size^;");
        fault("size ^1 2;");
        fault("size ^25 2;");
        fault("size ^000002 2;");
        fault("size ^-2 2;");
        fault("size 2 ^1;");
        fault("size 2 ^17;");
        fault("size 2^;");
        fault("size 2 2^,");
        fault("size 2 2 ^2;");
        fault("size 2 2;^size 2 2;");
        fault("size 2 2;^;");
        fault("size 2 2;^5;");
        fault("size 2 2;^name a;");
    }

    private static void groups() {
        fault("size 2 2;groups ^0;");
        fault("size 2 2;groups ^4;");
        fault("size 2 2;groups ^000001;");
        fault("size 2 2;groups^;");
        fault("size 2 2;groups 2 ^2;");
        fault("size 2 2;groups 2;^groups 2;");
        fault("size 2 2;groups 2;sea 0:0-0;^groups");
        fault("size 2 2;zone a people 1;^groups 1;");
        fault("^groups 1;size 2 2;");
        fault("size 2 2;groups 3;zone a people 1,2^;");
        fault("size 2 2;groups 3;zone a people 1,2,3^,4;");
        fault("size 2 2;groups 3;zone a people ^,2,3;");
        fault("size 2 2;groups 3;zone a people 1,^,3;");
    }

    private static void zones() {
        fault("size 2 2;zone ^abcdefg people 1;");
        fault("size 2 2;zone ^A people 1;");
        fault("size 2 2;zone ^1 people 1;");
        fault("size 2 2;zone a^A people 1;");
        for (String word : new String[] {"size", "groups", "zone", "people", "row", "sea"}) {
            fault("size 2 2;zone ^" + word + " people 1;");
        }
        fault("size 2 2;zone a ^peoples 1;");
        fault("size 2 2;zone a ^row 1;");
        fault("size 2 2;zone a ^1;");
        fault("size 2 2;zone a people ^100000;");
        fault("size 2 2;zone a people ^000000;");
        fault("size 2 2;zone a people ^;");
        fault("size 2 2;zone a people 1^,2;");
        fault("size 2 2;zone a people 1 ^2;");
        fault("size 2 2;zone a people 1;zone ^a people 1;");
        fault("size 2 2;zone ab people 1;zone a people 1;zone ^ab people 1;");
        fault("size 2 2;zone a people 1;zone b people 1;zone c people 1;zone d people 1;zone e people 1;"
                + "zone f people 1;zone g people 1;zone h people 1;^zone i people 1;");
        fault("size 2 2;zone a people 1;zone b people 1;zone c people 1;zone d people 1;zone e people 1;"
                + "zone f people 1;zone g people 1;zone h people 1;row h 0:0-0;^zone ");
    }

    private static void rows() {
        fault("size 2 2;row ^a 0:0-0;");
        fault("size 2 2;row ^0:0-0;");
        fault(TWO + "row ^c 0:0-0;");
        fault(TWO + "row ^aa 0:0-0;");
        fault(TWO + "row ^row 0:0-0;");
        fault(TWO + "row b ^3:0-0;");
        fault(TWO + "row b ^000000:0-0;");
        fault(TWO + "row b ^:0-0;");
        fault(TWO + "row b 2^-0;");
        fault(TWO + "row b 2:^4-0;");
        fault(TWO + "row b 2:^;");
        fault(TWO + "row b 2:0^;");
        fault(TWO + "row b 2:0^,");
        fault(TWO + "row b 2:0-^;");
        fault(TWO + "row b 2:2-^1;");
        fault(TWO + "row b 2:0-^4;");
        fault(TWO + "row b 2:0-^000001;");
        fault(TWO + "row b 2:0-1^-2;");
        fault(TWO + "row b 2:0-1,^;");
        fault(TWO + "row b 2:0-1,2^,");
        fault(TWO + "row b 2:0-1,2-^9;");
        fault(TWO + "row b 2:0-1 ^2-3;");
        fault(TWO + "row b 2:0-1 ^row");
        fault(TWO + "row b 0:0-0,3-3;row a 0:1-2;row b 1:0-3;row a 2:0-3;");
    }

    private static void runsOfOthers() {
        fault(TWO + "row b 0:^1-1;");
        fault(TWO + "row b 0:^1-2;");
        fault(TWO + "row b 0:^0-1;");
        fault(TWO + "row b 0:^0-3;");
        fault(TWO + "row b 0:^2-1;");
        fault(TWO + "row b 0:^2-9;");
        fault(TWO + "row b 0:^2;");
        fault(TWO + "row b 0:^2");
        fault(TWO + "row b 0:^2 x");
        fault(TWO + "row b 0:^00001 x");
        fault(TWO + "row b 0:0-^9;");
        fault(TWO + "row b 0:0^;");
        fault(TWO + "row b 0:0-^x;");
        fault(TWO + "row b 0:^0-1x");
        fault(TWO + "row b 0:^0-1");
        fault(TWO + "row b 0:3-3, ^0-1,9-9;");
        fault(TWO + "row b 0:^000002");
        fault(TWO + "sea 0:0-3;row b 0:^2-2;");
    }

    private static void seas() {
        fault(TWO + "sea 0:0-3;");
        fault(TWO + "sea 0:0-0,0-0,1-2;");
        fault(TWO + "sea ^a 0:0-3;");
        fault(TWO + "sea ^3:0-3;");
        fault(TWO + "sea 0^;");
        fault(TWO + "sea 0:^4-4;");
        fault(TWO + "sea 0:1-^0;");
        fault(TWO + "sea 0:1-^4;");
        fault(TWO + "sea 0:1-2^:");
    }

    private static void ends() {
        String text = "size 12 13;groups 2;zone ab people 17,28;row ab 11:10-11,0-0;sea 2:3-4;";
        fault("size 12 13;groups 2;zone ab people 17,28;row ab 11:10-11,0-0;sea 2:3-4^");
        fault("size 12 13;groups 2;zone ab people 17,28;row ab 11:10-11,0-0;sea 2:3-^");
        fault("size 12 13;groups 2;zone ab people 17,28;row ab 11:10-^1");
        fault("size 12 13;groups 2;zone ab people 17,28;row ^a");
        fault("size 12 13;groups 2;zone ab people 17,28;row^");
        fault("size 12 13;groups 2;zone ab people 17,28;^ro");
        fault("size 12 13;groups 2;zone ab people 1^");
        fault("size 12 13;groups 2;zone ab ^peopl");
        fault("size 12 13;groups 2;zone a^");
        fault("size 12 13;groups 2;zone se^");
        fault("size 12 13;groups 2;zone ^sea");
        fault("size 12 13;^group");
        fault("size 12 ^1");
        fault("size 12^");
        fault("size ^1");
        fault("^siz");
        Check.is("the whole of it", Check.faultOf(text), DotSpreader.NONE);
        Check.is("the text's length with blanks behind", Check.faultOf("size 2 2  "), 10);
    }
}
