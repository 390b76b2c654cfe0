import java.util.Random;

/** The edges that promises 9 and 10 and the form of a text name: the tape, passes, faults. */
public final class TapeEdgeTest {
    private static final String BLANKS = " ".repeat(100);
    private static final String TWELVE = "01,02,03,04,05,06,07,12,13,14,15,16";
    private static final String EIGHT = "01,12,23,34,45,56,67;0<1:a,1<0:b,2<1:c,3<2:d,4<3:e,5<4:f,6<5:g,7<6:a";

    public static void main(String[] args) {
        oneToEightBytes();
        bytesFrom32To126();
        theLowestBytesAlone();
        theHighestFirst();
        behindTheTape();
        aHundredBytes();
        whatIsTooLongAddsNothing();
        theTapeIsEmptyThen();
        oneToTwelveWays();
        commasBetween();
        twoUnlikeDigits();
        noPairTwice();
        perhapsDoubtful();
        aSeventhCanNotStand();
        thenPerhapsStones();
        oneToEightStones();
        placeOfAStone();
        theByteSixty();
        sideOfAStone();
        aLetterOfThoseTold();
        inPlaceOfAll();
        blanksCountForNothing();
        theEnd();
        aFullTapeIsAPass();
        eachByteOfATextBroken();
        manyTexts();
        Due.end();
    }

    private static int passOf(String text) {
        ReadPass x = new ReadPass();
        Due.is("bytes of '" + text + "'", text.isEmpty() ? 0 : Due.typed(x, text), text.length());
        return x.pass();
    }

    private static void due(String text, int want) {
        Due.is("pass '" + text + "'", passOf(text), want);
        Due.is("what the form of texts says of '" + text + "'", answer(text), want);
    }

    private static void oneToEightBytes() {
        Due.says("The n lowest bytes (1 .. 8) of w; BAD: n");
        Due.numbers("type(w, n)", new ReadPass(), 1, 8, (x, n) -> x.type(0x3131313131313131L, n));
        ReadPass x = new ReadPass();
        Due.is("n 0", x.type(0x3131313131313131L, 0), -1);
        Due.is("n 9", x.type(0x3131313131313131L, 9), -1);
        Due.is("nothing came", x.type(0x31, 1), 1);
        Due.is("eight", x.type(0x3131313131313131L, 8), 9);
        int length = 9;
        for (int n = 1; n <= 8; n++) {
            length += n;
            Due.is("n " + n, x.type(0x3131313131313131L, n), length);
        }
    }

    private static void bytesFrom32To126() {
        Due.says("BAD: a byte not 32 .. 126");
        for (int n = 1; n <= 8; n++) {
            for (int at = 0; at < n; at++) {
                ReadPass x = new ReadPass();
                for (int b = 0; b < 256; b++) {
                    long w = 0x4141414141414141L & ~(255L << 8 * at) | (long) b << 8 * at;
                    int had = x.type(w, n);
                    Due.is("byte " + b + " at " + at + " of " + n, had < 0 ? had : 1, b < 32 || b > 126 ? -1 : 1);
                    if (had > 90) {
                        x.pass();
                    }
                }
            }
        }
        Due.is("type(-1, 8)", new ReadPass().type(-1, 8), -1);
        Due.is("type(MIN, 8)", new ReadPass().type(Long.MIN_VALUE, 8), -1);
        Due.is("type(0, 1)", new ReadPass().type(0, 1), -1);
    }

    private static void theLowestBytesAlone() {
        Due.says("The n lowest bytes of w");
        for (int n = 1; n < 8; n++) {
            ReadPass x = new ReadPass();
            Due.is("bad bytes above", x.type(-1L << 8 * n | 0x20202020202020L >>> 8 * (7 - n), n), n);
            Due.is("noughts above", x.type(0x20202020202020L >>> 8 * (7 - n), n), 2 * n);
        }
        ReadPass x = new ReadPass();
        Due.is("01 of 9901", x.type(0x39393031, 2), 2);
        Due.is("pass", x.pass(), 1);
    }

    private static void theHighestFirst() {
        Due.says("of these the highest first");
        ReadPass x = new ReadPass();
        Due.is("01?,02,3", x.type(0x30313F2C30322C33L, 8), 8);
        Due.is("4;4<3:c", x.type(0x343B343C333A63L, 7), 15);
        Due.is("pass", x.pass(), 3);
        Due.is("told(1, 1)", x.told(1, 1), 2);
        Due.is("told(2, 1)", x.told(2, 1), 4);
        Due.is("doubtful", x.count(1), 1);
        Due.is("of(4, 0)", x.of(4, 0), 3);
        Due.is("of(4, 1)", x.of(4, 1), 2);
    }

    private static void behindTheTape() {
        Due.says("come behind THE TAPE: how many it has");
        ReadPass x = new ReadPass();
        String text = "67?,45;6<7:b";
        for (int i = 0; i < text.length(); i++) {
            Due.is("type", x.type(text.charAt(i), 1), i + 1);
        }
        Due.is("pass", x.pass(), 2);
        Due.is("told(0, 0)", x.told(0, 0), 6);
        Due.is("of(6, 1)", x.of(6, 1), 1);
    }

    private static void aHundredBytes() {
        Due.says("FULL: 100");
        for (int n = 1; n <= 8; n++) {
            ReadPass x = new ReadPass();
            Due.typed(x, BLANKS.substring(n));
            Due.is(n + " more make 100", x.type(0x2020202020202020L, n), 100);
            Due.is("one more", x.type(32, 1), -3);
            Due.is("eight more", x.type(0x2020202020202020L, 8), -3);
            x = new ReadPass();
            Due.typed(x, BLANKS.substring(n - 1));
            Due.is(n + " more make 101", x.type(0x2020202020202020L, n), -3);
        }
    }

    private static void whatIsTooLongAddsNothing() {
        Due.says("What is refused changes nothing");
        ReadPass x = new ReadPass();
        Due.typed(x, BLANKS.substring(4));
        Due.is("five", x.type(0x3132333435L, 5), -3);
        Due.is("a bad byte behind two good ones", x.type(0x3031FFL, 3), -1);
        Due.is("two", x.type(0x3031, 2), 98);
        Due.is("three", x.type(0x2C3132, 3), -3);
        Due.is("a bad byte: BAD ahead of FULL", x.type(0x2C3180, 3), -1);
        Due.is("n 9: BAD ahead of FULL", x.type(0x2C3132, 9), -1);
        Due.is("n 0: BAD ahead of FULL", x.type(0x2C3132, 0), -1);
        Due.is("two", x.type(0x3F20, 2), 100);
        Due.is("pass", x.pass(), 1);
        Due.is("doubtful", x.count(1), 1);
    }

    private static void theTapeIsEmptyThen() {
        Due.says("THE TAPE, which is empty then (by a FAULT, too)");
        ReadPass x = new ReadPass();
        Due.typed(x, "01");
        Due.is("pass", x.pass(), 1);
        Due.is("empty", x.pass(), -20);
        Due.is("type", x.type(0x38, 1), 1);
        Due.is("a fault", x.pass(), -20);
        Due.is("type", x.type(0x30, 1), 1);
        Due.is("type", x.type(0x37, 1), 2);
        Due.is("pass", x.pass(), 1);
        Due.typed(x, BLANKS);
        Due.is("full of blanks", x.pass(), -120);
        Due.is("empty", x.type(32, 1), 1);
    }

    private static void oneToTwelveWays() {
        Due.says("1 to 12 WAYS");
        due("", -20);
        due("01", 1);
        due(TWELVE.substring(0, 32), 11);
        due(TWELVE, 12);
        due(TWELVE + ",17", -55);
        due(TWELVE + ",", -55);
        due(TWELVE + " ,17", -56);
        due(TWELVE + "?,17", -56);
        due(TWELVE + ";1<0:l", 12);
        due(";", -20);
        due(";1<0:a", -20);
        Due.is("a thirteenth", Due.pass(TWELVE).way(1, 7, false), -3);
    }

    private static void commasBetween() {
        Due.says("1 to 12 WAYS with , between");
        due("0112", -22);
        due("01 12", -23);
        due("01,,12", -23);
        due(",01", -20);
        due("01,", -23);
        due("01,;1<0:a", -23);
        due("01.12", -22);
        due("01?12", -23);
        due("01?,12", 2);
    }

    private static void twoUnlikeDigits() {
        Due.says("two unlike digits 0 .. 7; of one PLACE, the second digit");
        for (char c = 32; c <= 126; c++) {
            boolean isDigit = c >= '0' && c <= '7';
            due(c + "1", c == ' ' ? -22 : c == '1' ? -21 : isDigit ? 1 : -20);
            due("1" + c, c == ' ' ? -22 : isDigit && c != '1' ? 1 : -21);
            due("01,2" + c, c == ' ' ? -25 : isDigit && c != '2' ? 2 : -24);
        }
        for (char c = '0'; c <= '7'; c++) {
            due("" + c + c, -21);
            due(" " + c + "  " + c, -24);
        }
        due("0", -21);
    }

    private static void noPairTwice() {
        Due.says("(no pair twice); of a pair told twice the second digit");
        due("01,01", -24);
        due("01,10", -24);
        due("10,01", -24);
        due("01?,01", -25);
        due("01,01?", -24);
        due("01, 1 0", -26);
        due("01,02,12,20", -30);
        due("12,01,02,21", -30);
        due(TWELVE.substring(0, 33) + "51", -54);
        due("01,02,12", 3);
    }

    private static void perhapsDoubtful() {
        Due.says("perhaps ? (DOUBTFUL)");
        due("01?", 1);
        due("01??", -23);
        due("?", -20);
        due("0?1", -21);
        due("01,?", -23);
        due("01?;1<0:a?", -29);
        ReadPass x = Due.pass("01,02?,03");
        Due.is("doubtful", x.count(1), 2);
    }

    private static void aSeventhCanNotStand() {
        Due.says("a seventh can't stand");
        due("01?,02?,03?,04?,05?,06?", 6);
        due("01?,02?,03?,04?,05?,06?,07?", -46);
        due("01?,02?,03?,04?,05?,06?,07 ?", -47);
        due("01?,02?,03?,04?,05?,06?,07,12?", -49);
        due("01?,02?,03?,04?,05?,06?,07,12", 8);
        due("01,02,03,04,05,06?,07?,12?,13?,14?,15?,16", 12);
        due("01,02,03,04,05,06?,07?,12?,13?,14?,15?,16?", -61);
        due("01?,02?,03?,04?,05?,06?;1<0:f", 6);
        Due.is("a seventh", Due.pass("01?,02?,03?,04?,05?,06?").way(0, 7, true), -3);
    }

    private static void thenPerhapsStones() {
        Due.says("then perhaps ; and 1 to 8 STONES");
        due("01;", -23);
        due("01; ", -24);
        due("01;;1<0:a", -23);
        due("01:1<0:a", -22);
        due("01;1<0:a", 1);
        due("01;1<0:a;", -28);
        due("01;1<0:a;0<1:a", -28);
        due("01;1<0:a 0<1:a", -29);
        due("01;12", -24);
        due("01;,1<0:a", -23);
    }

    private static void oneToEightStones() {
        Due.says("1 to 8 STONES with , between");
        due(EIGHT, 7);
        due(EIGHT + ",", -20 - EIGHT.length());
        due(EIGHT + " , 0<1:a", -21 - EIGHT.length());
        due(EIGHT.substring(0, EIGHT.length() - 1), -19 - EIGHT.length());
        due("01;1<0:a,", -29);
        due("01;1<0:a,,0<1:a", -29);
        due("01;1<0:a0<1:a", -28);
        Due.is("stones", Due.pass(EIGHT).count(2), 8);
        Due.is("stones", Due.pass(EIGHT.substring(0, EIGHT.length() - 6)).count(2), 7);
    }

    private static void placeOfAStone() {
        Due.says("a digit (PLACE; none twice)");
        for (char c = 33; c <= 126; c++) {
            boolean isDigit = c >= '0' && c <= '7';
            due("01;" + c + "<0:a", c == '1' ? 1 : isDigit ? -25 : -23);
        }
        due("01,12;1<0:a,1<0:a", -32);
        due("01,12;1<0:a,1<2:b", -32);
        due("01,12;1<0:a,2<1:b,1<2:b", -38);
        due("01,12;1<0:a, 1<2:b", -33);
        due("01,12;1<0:a,0<1:b", 2);
    }

    private static void theByteSixty() {
        Due.says("the byte 60 (less than)");
        for (char c = 33; c <= 126; c++) {
            due("01;1" + c + "0:a", c == '<' ? 1 : -24);
        }
        due("01;10:a", -24);
        due("01;1<<0:a", -25);
    }

    private static void sideOfAStone() {
        Due.says("a digit (its SIDE), : and a letter; of a SIDE that is not joined its digit");
        for (char c = 33; c <= 126; c++) {
            due("01,12;1<" + c + ":a", c == '0' || c == '2' ? 2 : -28);
            due("01,12;1<0" + c + "a", c == ':' ? 2 : -29);
        }
        due("01,12;1<1:a", -28);
        due("01,12;7<6:a", -28);
        due("01,12;0<2:a", -28);
        due("01,12;0< 2:a", -29);
        due("01,12;0<1:a,2<0:a", -34);
        due("01?;0<1:a", 1);
    }

    private static void aLetterOfThoseTold() {
        Due.says("a letter a .. l (the WAY, of those told)");
        for (int ways = 1; ways <= 12; ways++) {
            String text = TWELVE.substring(0, 3 * ways - 1) + ";1<0:";
            for (char c = 33; c <= 126; c++) {
                boolean isTold = c >= 'a' && c < 'a' + ways;
                due(text + c, isTold ? ways : -20 - text.length());
            }
        }
        Due.is("l", Due.pass(TWELVE + ";1<0:l").of(1, 1), 11);
        Due.is("a", Due.pass(TWELVE + ";1<0:a").of(1, 1), 0);
    }

    private static void inPlaceOfAll() {
        Due.says("in place of all WAYS, STONES (no SNOW then; HOME stays)");
        ReadPass x = Due.pass(TWELVE + ";1<0:l,0<1:a");
        Due.typed(x, "67?,56?;6<7:b");
        x.home(2);
        Due.is("pass", x.pass(), 2);
        Due.is("ways", x.count(0), 2);
        Due.is("no third", x.told(2, 0), -1);
        Due.is("told(0, 0)", x.told(0, 0), 6);
        Due.is("stones", x.count(2), 1);
        Due.is("no old stone", x.of(1, 0), -4);
        Due.is("home", x.count(3), 2);
        Due.is("no old way", x.read(1, 0), -2);
        Due.is("snow", x.snow(3), 0);
        Due.typed(x, "67?,56?");
        Due.is("pass", x.pass(), 2);
        Due.is("no snow", x.count(4), 0);
        Due.is("no snow", x.told(0, 3), 0);
        Due.is("stones", x.count(2), 0);
        Due.is("home", x.count(3), 2);
        int[][] ten = {{0, 1}, {0, 2}, {0, 3}, {0, 4}, {0, 5}, {0, 6}, {0, 7}, {1, 2}, {1, 3}, {1, 4}};
        for (int k = 0; k < 10; k++) {
            Due.is("a way in the room of an old one", x.way(ten[k][0], ten[k][1], k < 4), k + 2);
        }
        Due.is("a thirteenth", x.way(1, 6, false), -3);
        Due.is("doubtful", x.count(1), 63);
    }

    private static void blanksCountForNothing() {
        Due.says("bytes 32 count for nothing; the place of the first byte (behind blanks)");
        due("  0 1  ?  ,  1 2  ;  1  <  2  :  b  ", 2);
        String text = "01,12?;1<2:b,0<1:a";
        for (int at = 0; at <= text.length(); at++) {
            due(text.substring(0, at) + " " + text.substring(at), 2);
            due(text.substring(0, at) + "    " + text.substring(at), 2);
            due(text.substring(0, at) + "  !" + text.substring(at), -22 - at);
        }
        due("   8", -23);
        due("0   0", -24);
    }

    private static void theEnd() {
        Due.says("-20 less the place .. (the end: how many bytes there are)");
        String text = "01?;1<0:a";
        for (int n = 0; n < text.length(); n++) {
            boolean isWhole = n == 2 || n == 3;
            due(text.substring(0, n), isWhole ? 1 : -20 - n);
            due(text.substring(0, n) + "   ", isWhole ? 1 : -23 - n);
        }
        due(BLANKS, -120);
    }

    private static void aFullTapeIsAPass() {
        Due.says("FULL: 100");
        due(EIGHT + " ".repeat(100 - EIGHT.length()), 7);
        due(" ".repeat(98) + "01", 1);
        due(" ".repeat(99) + "0", -120);
        due(" ".repeat(99) + "8", -119);
        due(" ".repeat(97) + "01,", -120);
        due("01,02,03,04,05,06,07,12?,13?,14?,15?,16?;0<1:l,1<0:k,2<1:j,3<0:i,4<1:h,5<0:g,6<1:f,7<0:e           ", 12);
    }

    private static void eachByteOfATextBroken() {
        Due.says("-20 less the place of the first byte that can't stand there");
        String text = "01?,12,20;1<2:b,0<1:c";
        for (int at = 0; at < text.length(); at++) {
            for (char c = 32; c <= 126; c++) {
                String broken = text.substring(0, at) + c + text.substring(at + 1);
                due(broken, answer(broken));
            }
            String shorter = text.substring(0, at) + text.substring(at + 1);
            due(shorter, answer(shorter));
            String twice = text.substring(0, at + 1) + text.substring(at);
            due(twice, answer(twice));
        }
    }

    private static void manyTexts() {
        Due.says("A PASS is a TEXT");
        Random random = new Random(20261120);
        String signs = "0123456701234567,,;<:ab? ";
        int whole = 0;
        for (int k = 0; k < 20000; k++) {
            StringBuilder text = new StringBuilder();
            int length = 1 + random.nextInt(60);
            boolean mayBreak = random.nextInt(3) > 0;
            for (int tries = 0; tries < 2000 && text.length() < length; tries++) {
                char c = signs.charAt(random.nextInt(signs.length()));
                String before = text.toString().replace(" ", "");
                if (c == ' ' || canStand(before, c) || mayBreak && random.nextInt(200) == 0) {
                    text.append(c);
                    mayBreak &= c == ' ' || canStand(before, c);
                }
            }
            whole += answer(text.toString()) > 0 ? 1 : 0;
            due(text.toString(), answer(text.toString()));
        }
        Due.is("whole ones are many", whole > 1000 ? 1 : 0, 1);
        Due.is("broken ones are many", whole < 18000 ? 1 : 0, 1);
    }

    /** What pass answers of a text, found sign by sign. */
    private static int answer(String text) {
        String before = "";
        for (int i = 0; i < text.length(); i++) {
            char c = text.charAt(i);
            if (c != ' ') {
                if (!canStand(before, c)) {
                    return -20 - i;
                }
                before = before + c;
            }
        }
        int stones = before.indexOf(';');
        String ways = stones < 0 ? before : before.substring(0, stones);
        int last = before.length() - 1 - Math.max(before.lastIndexOf(','), stones);
        boolean isWhole = stones < 0 ? last >= 2 : last == 5;
        return isWhole ? ways.split(",").length : -20 - text.length();
    }

    /** Whether a sign can stand behind a text that is right so far, both without blanks. */
    private static boolean canStand(String before, char c) {
        int stones = before.indexOf(';');
        String part = before.substring(Math.max(before.lastIndexOf(','), stones) + 1);
        if (stones < 0) {
            return canStandInWay(before.substring(0, before.length() - part.length()), part, c);
        }
        String ways = before.substring(0, stones);
        return canStandInStone(ways, before.substring(stones + 1, before.length() - part.length()), part, c);
    }

    private static boolean canStandInWay(String ahead, String part, char c) {
        boolean isDigit = c >= '0' && c <= '7';
        boolean mayEnd = c == ';' || c == ',' && ahead.split(",", -1).length < 12;
        switch (part.length()) {
            case 0: return isDigit;
            case 1: return isDigit && c != part.charAt(0) && !isJoined(ahead, part.charAt(0), c);
            case 2: return mayEnd || c == '?' && ahead.replaceAll("[^?]", "").length() < 6;
            default: return mayEnd;
        }
    }

    private static boolean canStandInStone(String ways, String ahead, String part, char c) {
        boolean isDigit = c >= '0' && c <= '7';
        switch (part.length()) {
            case 0: return isDigit && !ahead.startsWith(c + "<") && !ahead.contains("," + c + "<");
            case 1: return c == '<';
            case 2: return isDigit && isJoined(ways, part.charAt(0), c);
            case 3: return c == ':';
            case 4: return c >= 'a' && c < 'a' + ways.split(",").length;
            default: return c == ',' && ahead.split(",", -1).length < 8;
        }
    }

    private static boolean isJoined(String ways, char a, char b) {
        return ways.contains("" + a + b) || ways.contains("" + b + a);
    }
}
