/** Promises 9 and 10: the tape, passes as texts. */
public final class TapeTest {
    public static void main(String[] args) {
        type();
        tapeIsFull();
        passes();
        passTakesThePlaceOfAll();
        faultsOfWays();
        faultsOfStones();
        faultsOfCounts();
        blanks();
        faultChangesNothing();
        Due.end();
    }

    private static void type() {
        ReadPass x = new ReadPass();
        Due.is("n 0", x.type(0x3031, 0), -1);
        Due.is("n 9", x.type(0x3031, 9), -1);
        Due.is("n -1", x.type(0x3031, -1), -1);
        Due.is("n MIN", x.type(0x3031, Integer.MIN_VALUE), -1);
        Due.is("n MAX", x.type(0x3031, Integer.MAX_VALUE), -1);
        Due.is("byte 31", x.type(31, 1), -1);
        Due.is("byte 127", x.type(127, 1), -1);
        Due.is("byte 255", x.type(255, 1), -1);
        Due.is("byte 0 above", x.type(0x31, 2), -1);
        Due.is("byte 31 in the midst", x.type(0x301f31, 3), -1);
        Due.is("high byte", x.type(0x8031313131313131L, 8), -1);
        Due.is("32", x.type(32, 1), 1);
        Due.is("126", x.type(126, 1), 2);
        Due.is("pass", x.pass(), -21);
        // only the n lowest bytes are looked at, the highest of them first
        Due.is("lowest bytes", x.type(0xff00000000003132L, 2), 2);
        Due.is("eight", x.type(0x2c32333f2c33343fL, 8), 10);
        Due.is("pass", x.pass(), 3);
        Due.is("told(0, 0)", x.told(0, 0), 1);
        Due.is("told(0, 1)", x.told(0, 1), 2);
        Due.is("told(1, 1)", x.told(1, 1), 3);
        Due.is("doubtful", x.count(1), 6);
    }

    private static void tapeIsFull() {
        ReadPass x = new ReadPass();
        long blanks = 0x2020202020202020L;
        for (int k = 1; k <= 12; k++) {
            Due.is("type", x.type(blanks, 8), 8 * k);
        }
        Due.is("five more", x.type(blanks, 5), -3);
        Due.is("a bad byte ahead of FULL", x.type(blanks + 0x80, 8), -1);
        Due.is("four more", x.type(0x20303120, 4), 100);
        Due.is("one more", x.type(32, 1), -3);
        Due.is("pass", x.pass(), 1);
        Due.is("empty now", x.type(32, 1), 1);
    }

    private static int passOf(String text) {
        ReadPass x = new ReadPass();
        Due.typed(x, text);
        return x.pass();
    }

    private static void due(String text, int want) {
        Due.is("pass '" + text + "'", passOf(text), want);
    }

    private static void passes() {
        due("01", 1);
        due("76?", 1);
        due("01?,02?,03?,04?,05?,06?,07", 7);
        due("01,02,03,04,05,06,07,12,13,14,15,16", 12);
        due("01;0<1:a,1<0:a", 1);
        due("01,02,03,04,05,06,07,12,13,14,15,16;7<0:l", 12);
        due("01,02,03,04,05,06,07;0<1:a,1<0:b,2<0:c,3<0:d,4<0:e,5<0:f,6<0:g,7<0:a", 7);
        ReadPass x = Due.pass("21,13?,70;1<3:c,0<7:b");
        int[][] ways = {{1, 2, 0, 0}, {1, 3, 1, 0}, {0, 7, 0, 0}};
        for (int w = 0; w < 3; w++) {
            for (int what = 0; what < 4; what++) {
                Due.is("told(" + w + ", " + what + ")", x.told(w, what), ways[w][what]);
            }
        }
        Due.is("of(1, 0)", x.of(1, 0), 3);
        Due.is("of(1, 1)", x.of(1, 1), 2);
        Due.is("of(0, 0)", x.of(0, 0), 7);
        Due.is("of(0, 1)", x.of(0, 1), 1);
        Due.is("stones", x.count(2), 2);
    }

    private static void passTakesThePlaceOfAll() {
        ReadPass x = Due.pass("01?,12?,23?;1<0:b,2<3:c");
        x.snow(5);
        x.home(3);
        Due.typed(x, "45?");
        Due.is("pass", x.pass(), 1);
        Due.is("ways", x.count(0), 1);
        Due.is("doubtful", x.count(1), 1);
        Due.is("stones", x.count(2), 0);
        Due.is("home stays", x.count(3), 3);
        Due.is("no snow", x.count(4), 0);
        Due.is("the old ways are gone", x.way(1, 0, false), 1);
        Due.is("no stone", x.of(1, 0), -4);
        Due.is("not joined any more", x.read(1, 2), -2);
        Due.is("the way is open", x.told(0, 3), 0);
        Due.is("nothing leads home", x.worst(2), -4);
        Due.is("nothing leads home", x.walk(2, 2, 1), 1);
        x.home(7);
        Due.typed(x, "07");
        Due.is("pass", x.pass(), 1);
        Due.typed(x, "01,12");
        Due.is("pass", x.pass(), 2);
        Due.is("the last pass does not lead home", x.worst(0), -4);
        Due.is("the last pass does not lead home", x.walk(2, 0, 1), 1);
    }

    private static void faultsOfWays() {
        due("", -20);
        due("0", -21);
        due("8", -20);
        due("9", -20);
        due("/", -20);
        due("?", -20);
        due(",", -20);
        due(";", -20);
        due("00", -21);
        due("08", -21);
        due("0,", -21);
        due("0?", -21);
        due("01,", -23);
        due("01,,", -23);
        due("01,1", -24);
        due("01,11", -24);
        due("01,10", -24);
        due("01?,10?", -25);
        due("01??", -23);
        due("012", -22);
        due("01 2", -23);
        due("01<", -22);
        due("01a", -22);
        due("01?1", -23);
        due("01?,02?,03?,04?,05?,06?,07?", -46);
        due("01?,02?,03?,04?,05?,06?,0", -45);
        due("01,02,03,04,05,06,07,12,13,14,15,16,", -55);
        due("01,02,03,04,05,06,07,12,13,14,15,16?,17", -56);
        due("01,02,03,04,05,06,07,12,13,14,15,166", -55);
    }

    private static void faultsOfStones() {
        due("01;", -23);
        due("01;;", -23);
        due("01;8", -23);
        due("01;,", -23);
        due("01;0", -24);
        due("01;0>1:a", -24);
        due("01;01:a", -24);
        due("01;0<", -25);
        due("01;0<8:a", -25);
        due("01;0<0:a", -25);
        due("01;0<2:a", -25);
        due("01;2<0:a", -25);
        due("01;0<:a", -25);
        due("01;0<1", -26);
        due("01;0<1a", -26);
        due("01;0<1;a", -26);
        due("01;0<1:", -27);
        due("01;0<1:b", -27);
        due("01;0<1:`", -27);
        due("01;0<1:A", -27);
        due("01;0<1:0", -27);
        due("01,02,03,04,05,06,07,12,13,14,15,16;7<0:m", -60);
        due("01;0<1:a,", -29);
        due("01;0<1:a,0", -29);
        due("01;0<1:a,,", -29);
        due("01;0<1:a;", -28);
        due("01;0<1:aa", -28);
        due("01;0<1:a?", -28);
        due("01;0<1:a 1", -29);
    }

    private static void faultsOfCounts() {
        String eight = "01,02,03,04,05,06,07;0<1:a,1<0:b,2<0:c,3<0:d,4<0:e,5<0:f,6<0:g,7<0:a";
        due(eight + ",", -20 - eight.length());
        due(eight + ",0<1:a", -20 - eight.length());
        due(eight + ";", -20 - eight.length());
    }

    private static void blanks() {
        due(" ", -21);
        due("   ", -23);
        due(" 0 1 ", 1);
        due("0 1 ? , 1 2 ? ; 1 < 0 : b , 0 < 1 : a ", 2);
        due(" 8", -21);
        due("0  0", -23);
        due("01,  ", -25);
        due("01, 1 0", -26);
        due("01;0<1:  b", -29);
        due("01;0<   2:a", -28);
        due("01  ;  ", -27);
    }

    private static void faultChangesNothing() {
        ReadPass x = Due.pass("01?,12?;1<0:b");
        x.snow(2);
        Due.typed(x, "34,45;4<3:c");
        Due.is("pass", x.pass(), -30);
        Due.is("ways", x.count(0), 2);
        Due.is("doubtful", x.count(1), 3);
        Due.is("stones", x.count(2), 1);
        Due.is("snow", x.count(4), 2);
        Due.is("told(0, 0)", x.told(0, 0), 0);
        Due.is("of(1, 1)", x.of(1, 1), 1);
        Due.is("the tape is empty", x.pass(), -20);
    }
}
