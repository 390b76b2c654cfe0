/** The edges that promises 1 to 8 and 11 and their terms name: ways, stones, home, snow. */
public final class WaysEdgeTest {
    private static final String TWELVE = "01,02,03,04,05,06,07,12?,13?,14?,15?,16?";

    public static void main(String[] args) {
        noWaysNoStones();
        homeIsSevenAtFirst();
        noSnowAtFirst();
        nothingAtFirst();
        placesAre0To7();
        twoUnlikePlaces();
        ofTwoOneAtMost();
        waysAsTheyCome();
        twelveWays();
        sixDoubtful();
        aRefusedWayIsNone();
        toldOfWays();
        toldWhat();
        snowIsShut();
        stoneNumbers();
        stoneAboutAnyWay();
        stoneSideIsJoined();
        noPlaceIsToItself();
        stoneInPlaceOfOne();
        eightStones();
        strikes();
        ofStones();
        homes();
        snowIsASetOfDoubtfulWays();
        snowOfNoWay();
        counts();
        Due.end();
    }

    private static void noWaysNoStones() {
        Due.says("Promise 1: No ways, no stones.");
        ReadPass x = new ReadPass();
        Due.is("ways", x.count(0), 0);
        Due.is("doubtful ways", x.count(1), 0);
        Due.is("stones", x.count(2), 0);
        Due.is("told(0, 0)", x.told(0, 0), -1);
        for (int p = 0; p < 8; p++) {
            Due.is("of " + p, x.of(p, 0), -4);
            Due.is("strike " + p, x.strike(p), -2);
            Due.is("stone about way 0", x.stone(p, p ^ 1, 0), -1);
            for (int q = 0; q < 8; q++) {
                Due.is("read", x.read(p, q), -2);
            }
        }
        Due.is("the first way", x.way(3, 4, true), 0);
    }

    private static void homeIsSevenAtFirst() {
        Due.says("HOME is one (7 at first)");
        Due.is("count(3)", new ReadPass().count(3), 7);
        Due.is("home(7)", new ReadPass().home(7), 7);
        ReadPass x = new ReadPass();
        for (int p = 0; p < 8; p++) {
            Due.is("the journey from " + p + " ends HOME or LOST", x.walk(0, p, 1), p == 7 ? 0 : 1);
        }
    }

    private static void noSnowAtFirst() {
        Due.says("SNOW is a set of DOUBTFUL WAYS (none at first)");
        ReadPass x = new ReadPass();
        Due.is("count(4)", x.count(4), 0);
        Due.is("snow(0)", x.snow(0), 0);
        x.way(0, 1, true);
        Due.is("a new doubtful way is open", x.told(0, 3), 0);
        x.snow(1);
        x.way(0, 2, true);
        Due.is("a doubtful way that comes under snow", x.told(1, 3), 0);
        Due.is("count(4)", x.count(4), 1);
    }

    private static void nothingAtFirst() {
        Due.says("sheets 0 .. 3: nothing (at first)");
        ReadPass x = new ReadPass();
        for (int s = 0; s < 4; s++) {
            Due.is("item", x.item(s, 0, 0, 0), -11);
            Due.is("film", x.film(0, 7, s, 2, 0, 1), -11);
            Due.is("copy", x.copy(s, 0, s, 0, 0), -11);
            Due.is("drop", x.drop(s), -11);
        }
        Due.is("no image", x.restore(), -4);
        Due.is("no tape", x.type(32, 1), 1);
        Due.is("no tape", new ReadPass().pass(), -20);
    }

    private static void placesAre0To7() {
        Due.says("PLACES are 0 .. 7");
        Due.numbers("way(n, 3)", new ReadPass(), 0, 7, (x, n) -> n == 3 ? 0 : x.way(n, 3, false));
        Due.numbers("way(4, n)", new ReadPass(), 0, 7, (x, n) -> n == 4 ? 0 : x.way(4, n, false));
        ReadPass y = Due.pass(TWELVE);
        Due.numbers("stone(n, 0, 0)", y, 0, 7, (x, n) -> x.stone(n, 0, 0));
        Due.numbers("stone(0, n, 0)", y, 0, 7, (x, n) -> x.stone(0, n, 0));
        Due.numbers("strike(n)", y, 0, 7, (x, n) -> x.strike(n));
        Due.numbers("of(n, 0)", y, 0, 7, (x, n) -> x.of(n, 0));
        Due.numbers("of(n, 1)", y, 0, 7, (x, n) -> x.of(n, 1));
        Due.numbers("read(n, 0)", y, 0, 7, (x, n) -> x.read(n, 0));
        Due.numbers("read(0, n)", y, 0, 7, (x, n) -> x.read(0, n));
        Due.numbers("home(n)", y, 0, 7, (x, n) -> x.home(n));
    }

    private static void twoUnlikePlaces() {
        Due.says("WAYS join two unlike PLACES each; BAD: also one PLACE");
        ReadPass x = new ReadPass();
        for (int p = 0; p < 8; p++) {
            Due.is("clear way of one place", x.way(p, p, false), -1);
            Due.is("doubtful way of one place", x.way(p, p, true), -1);
        }
        Due.is("way(0, 1)", x.way(0, 1, false), 0);
        Due.is("way(0, 0)", x.way(0, 0, false), -1);
    }

    private static void ofTwoOneAtMost() {
        Due.says("of two, one at most; NOT: there is one");
        ReadPass x = new ReadPass();
        Due.is("way(0, 7)", x.way(0, 7, false), 0);
        Due.is("way(7, 0)", x.way(7, 0, false), -2);
        Due.is("way(0, 7)", x.way(0, 7, true), -2);
        Due.is("it stays clear", x.count(1), 0);
        Due.is("way(6, 5)", x.way(6, 5, true), 1);
        Due.is("way(5, 6)", x.way(5, 6, false), -2);
        Due.is("way(6, 5)", x.way(6, 5, true), -2);
        Due.is("it stays doubtful", x.count(1), 2);
        // joined by two ways is not joined by one
        Due.is("way(0, 6)", x.way(0, 6, false), 2);
        Due.is("way(5, 0)", x.way(5, 0, false), 3);
        for (int b = 1; b < 8; b++) {
            for (int a = 0; a < b; a++) {
                joinsTheseAlone(a, b);
            }
        }
    }

    private static void joinsTheseAlone(int a, int b) {
        ReadPass x = new ReadPass();
        Due.is("way", x.way(b, a, false), 0);
        Due.is("way again", x.way(b, a, true), -2);
        Due.is("way back", x.way(a, b, false), -2);
        for (int p = 0; p < 8; p++) {
            for (int q = 0; q < 8; q++) {
                boolean isJoined = p == a && q == b || p == b && q == a;
                Due.is("read(" + p + ", " + q + ")", x.read(p, q), isJoined ? -4 : -2);
            }
        }
    }

    private static void waysAsTheyCome() {
        Due.says("WAYS 0 .. 11, as they come; A WAY, DOUBTFUL or CLEAR: its number");
        ReadPass x = new ReadPass();
        int[][] pairs = {{7, 6}, {0, 1}, {6, 0}, {2, 5}, {5, 3}, {1, 7}, {3, 2}, {4, 7}, {4, 0}, {1, 2}, {6, 5}, {3, 4}};
        for (int w = 0; w < 12; w++) {
            Due.is("way " + w, x.way(pairs[w][0], pairs[w][1], w % 2 == 1), w);
            Due.is("ways", x.count(0), w + 1);
        }
        for (int w = 0; w < 12; w++) {
            Due.is("told(" + w + ", 0)", x.told(w, 0), Math.min(pairs[w][0], pairs[w][1]));
            Due.is("told(" + w + ", 1)", x.told(w, 1), Math.max(pairs[w][0], pairs[w][1]));
            Due.is("told(" + w + ", 2)", x.told(w, 2), w % 2);
        }
        Due.is("doubtful ways", x.count(1), 0xaaa);
    }

    private static void twelveWays() {
        Due.says("WAYS 0 .. 11; FULL: 12");
        ReadPass x = Due.pass("01,02,03,04,05,06,07,12,13,14,15");
        Due.is("the twelfth", x.way(1, 6, false), 11);
        Due.is("a thirteenth", x.way(1, 7, false), -3);
        Due.is("a thirteenth, doubtful", x.way(2, 7, true), -3);
        Due.is("ways", x.count(0), 12);
        Due.is("told(11, 1)", x.told(11, 1), 6);
        Due.is("told(12, 1)", x.told(12, 1), -1);
        x = Due.pass("01,02,03,04,05,06,07,12,13,14,15");
        Due.is("the twelfth, doubtful", x.way(1, 6, true), 11);
        Due.is("snow on it", x.snow(1 << 11), 0);
    }

    private static void sixDoubtful() {
        Due.says("CLEAR or DOUBTFUL (6 at most are); FULL: a seventh DOUBTFUL one");
        ReadPass x = Due.pass("01?,02?,03?,04?,05?");
        Due.is("the sixth", x.way(0, 6, true), 5);
        Due.is("a seventh", x.way(0, 7, true), -3);
        Due.is("a clear one", x.way(0, 7, false), 6);
        Due.is("a seventh", x.way(1, 7, true), -3);
        Due.is("doubtful ways", x.count(1), 63);
        Due.is("ways", x.count(0), 7);
        x = Due.pass("01,02,03,04,05,06,07,12,13,14?,15?");
        Due.is("the twelfth, the third doubtful", x.way(1, 6, true), 11);
    }

    private static void aRefusedWayIsNone() {
        Due.says("What is refused changes nothing");
        ReadPass x = Due.pass("01?,02?,03?,04?,05?,06?,12,13,14,15,16");
        Due.is("a seventh", x.way(7, 0, true), -3);
        Due.is("not joined", x.stone(7, 0, 0), -2);
        Due.is("not joined", x.read(7, 0), -2);
        Due.is("nothing leads home", x.walk(2, 0, 0), 0);
        Due.is("the twelfth", x.way(7, 1, false), 11);
        Due.is("a thirteenth", x.way(7, 0, false), -3);
        Due.is("not joined", x.stone(7, 0, 0), -2);
        Due.is("one goes home by 1", x.worst(6), 2);
    }

    private static void toldOfWays() {
        Due.says("told: Of a WAY; BAD: there is no such thing");
        Due.is("of no ways", new ReadPass().told(0, 0), -1);
        Due.is("of no ways", new ReadPass().told(-1, 0), -1);
        ReadPass y = Due.pass("70,61?,52");
        Due.numbers("told(n, 0)", y, 0, 2, (x, n) -> x.told(n, 0));
        Due.numbers("told(n, 3)", y, 0, 2, (x, n) -> x.told(n, 3));
        Due.numbers("told(n, 1)", Due.pass(TWELVE), 0, 11, (x, n) -> x.told(n, 1));
    }

    private static void toldWhat() {
        Due.says("0 its lesser PLACE, 1 the other one, 2 whether DOUBTFUL, 3 whether SHUT (1, 0)");
        ReadPass y = Due.pass("70,61?,52?", 7, 4);
        Due.numbers("told(2, n)", y, 0, 3, (x, n) -> x.told(2, n));
        int[][] due = {{0, 7, 0, 0}, {1, 6, 1, 0}, {2, 5, 1, 1}};
        for (int w = 0; w < 3; w++) {
            for (int what = 0; what < 4; what++) {
                Due.is("told(" + w + ", " + what + ")", y.told(w, what), due[w][what]);
            }
        }
    }

    private static void snowIsShut() {
        Due.says("SNOW is a set: these are SHUT, all others OPEN");
        ReadPass x = Due.pass(TWELVE);
        for (int w = 7; w < 12; w++) {
            x.snow(1 << w);
            for (int v = 0; v < 12; v++) {
                Due.is("told(" + v + ", 3)", x.told(v, 3), v == w ? 1 : 0);
            }
        }
        x.snow(0);
        Due.is("told(11, 3)", x.told(11, 3), 0);
    }

    private static void stoneNumbers() {
        Due.says("stone: BAD (a number is not as told, there is no such thing)");
        Due.numbers("stone(1, 0, n)", Due.pass("01,12"), 0, 1, (x, n) -> x.stone(1, 0, n));
        Due.numbers("stone(1, 0, n)", Due.pass(TWELVE), 0, 11, (x, n) -> x.stone(1, 0, n));
        ReadPass x = Due.pass("01,12");
        Due.is("no such way", x.stone(1, 0, 2), -1);
        Due.is("stones", x.count(2), 0);
        x.way(6, 7, false);
        Due.is("now there is one", x.stone(1, 0, 2), 1);
    }

    private static void stoneAboutAnyWay() {
        Due.says("A STONE is about a WAY (any)");
        for (int way = 0; way < 12; way++) {
            ReadPass x = Due.pass(TWELVE, 7, 0xa80);
            Due.is("stone", x.stone(3, 1, way), 1);
            Due.is("of", x.of(3, 1), way);
            Due.is("read", x.read(3, 1), 0xa80 >> way & 1 ^ 1);
        }
    }

    private static void stoneSideIsJoined() {
        Due.says("SIDE (another PLACE, joined to it by a WAY); NOT: the SIDE is not joined to it");
        ReadPass x = Due.pass("01?,12,67", 7, 1);
        for (int p = 0; p < 8; p++) {
            for (int s = 0; s < 8; s++) {
                boolean isJoined = p + s == 1 || p * s == 2 || p * s == 42;
                int got = x.stone(p, s, 0);
                Due.is("stone(" + p + ", " + s + ") is NOT", got == -2 ? 1 : 0, isJoined ? 0 : 1);
            }
        }
        Due.is("stones", x.count(2), 5);
        Due.is("of(1, 0)", x.of(1, 0), 2);
    }

    private static void noPlaceIsToItself() {
        Due.says("NOT: the SIDE is not joined to it (no PLACE is to itself)");
        ReadPass x = Due.pass(TWELVE);
        for (int p = 0; p < 8; p++) {
            Due.is("stone", x.stone(p, p, 0), -2);
            Due.is("of", x.of(p, 0), -4);
            Due.is("read", x.read(p, p), -2);
        }
    }

    private static void stoneInPlaceOfOne() {
        Due.says("A STONE comes to a PLACE (in place of one that is there): how many there are");
        ReadPass x = Due.pass("01,12,23?");
        Due.is("the first", x.stone(1, 0, 0), 1);
        Due.is("in its place", x.stone(1, 2, 2), 1);
        Due.is("of(1, 0)", x.of(1, 0), 2);
        Due.is("of(1, 1)", x.of(1, 1), 2);
        Due.is("the same again", x.stone(1, 2, 2), 1);
        Due.is("stones", x.count(2), 1);
        Due.is("strike", x.strike(1), 0);
        Due.is("no old one is below it", x.of(1, 0), -4);
    }

    private static void eightStones() {
        Due.says("how many there are");
        ReadPass x = Due.pass(TWELVE);
        Due.is("stone 0", x.stone(0, 7, 11), 1);
        for (int p = 1; p < 8; p++) {
            Due.is("stone " + p, x.stone(p, 0, p - 1), p + 1);
        }
        Due.is("in place of one of eight", x.stone(7, 0, 3), 8);
        for (int p = 0; p < 8; p++) {
            Due.is("of", x.of(p, 1), p == 0 ? 11 : p == 7 ? 3 : p - 1);
        }
    }

    private static void strikes() {
        Due.says("The STONE of a PLACE is away: how many are left. BAD; NOT: there is none.");
        ReadPass x = Due.pass("01,12,23,34,45,56,67;0<1:a,1<0:a,2<1:a,3<2:a,4<3:a,5<4:a,6<5:a,7<6:a");
        for (int p = 7; p >= 0; p--) {
            Due.is("strike", x.strike(p), p);
            Due.is("of", x.of(p, 0), -4);
            Due.is("strike again", x.strike(p), -2);
        }
        Due.is("a stone again", x.stone(7, 6, 6), 1);
        Due.is("strike", x.strike(7), 0);
    }

    private static void ofStones() {
        Due.says("Of the STONE of a PLACE: 0 SIDE, 1 WAY. BAD; NONE: there is none.");
        ReadPass y = Due.pass("01,12;1<2:b,0<1:a");
        Due.numbers("of(1, n)", y, 0, 1, (x, n) -> x.of(1, n));
        Due.is("of(1, 0)", y.of(1, 0), 2);
        Due.is("of(1, 1)", y.of(1, 1), 1);
        Due.is("of(0, 0)", y.of(0, 0), 1);
        Due.is("of(0, 1), way 0 is one", y.of(0, 1), 0);
        Due.is("of(2, 0)", y.of(2, 0), -4);
        Due.is("of(2, 1)", y.of(2, 1), -4);
    }

    private static void homes() {
        Due.says("HOME: what it was.");
        ReadPass x = new ReadPass();
        int was = 7;
        for (int p = 0; p < 8; p++) {
            Due.is("home", x.home(p), was);
            Due.is("home again", x.home(p), p);
            Due.is("count(3)", x.count(3), p);
            Due.is("it is home", x.worst(p), 0);
            Due.is("no other is", x.worst(p ^ 1), -4);
            was = p;
        }
        Due.is("refused", x.home(8), -1);
        Due.is("count(3)", x.count(3), 7);
    }

    private static void snowIsASetOfDoubtfulWays() {
        Due.says("SNOW becomes a set: what it was. BAD: a WAY is not DOUBTFUL.");
        int doubtful = 0xf80;
        ReadPass x = Due.pass(TWELVE);
        int was = 0;
        for (int set = 0; set < 4096; set += 37) {
            if ((set & ~doubtful) == 0) {
                Due.is("snow " + set, x.snow(set), was);
                was = set;
            } else {
                Due.is("snow " + set, x.snow(set), -1);
            }
        }
        Due.is("all", x.snow(doubtful), was);
        for (int w = 0; w < 7; w++) {
            Due.is("a clear one too", x.snow(doubtful | 1 << w), -1);
            Due.is("a clear one alone", x.snow(1 << w), -1);
        }
        Due.is("none", x.snow(0), doubtful);
        Due.is("none again", x.snow(0), 0);
    }

    private static void snowOfNoWay() {
        Due.says("SNOW becomes a set. BAD: a WAY is none");
        ReadPass x = Due.pass("01?,12?,23?");
        for (int bit = 3; bit < 32; bit++) {
            Due.is("bit " + bit, x.snow(1 << bit), -1);
            Due.is("bit " + bit + " too", x.snow(7 | 1 << bit), -1);
        }
        Due.is("snow(7)", x.snow(7), 0);
        Due.is("snow(-1)", x.snow(-1), -1);
        Due.is("snow(-8)", x.snow(-8), -1);
        Due.is("snow(MIN)", x.snow(Integer.MIN_VALUE), -1);
        Due.is("it stays", x.count(4), 7);
        ReadPass y = new ReadPass();
        for (int bit = 0; bit < 32; bit++) {
            Due.is("bit " + bit + " of no ways", y.snow(1 << bit), -1);
        }
        Due.is("the empty set of no ways", y.snow(0), 0);
    }

    private static void counts() {
        Due.says("How many: 0 WAYS, 1 DOUBTFUL ones (a set), 2 STONES, 3 HOME, 4 SNOW (a set). BAD.");
        ReadPass y = Due.pass(TWELVE + ";1<0:a,2<1:b", 3, 0x880);
        Due.numbers("count(n)", y, 0, 4, (x, n) -> x.count(n));
        int[] due = {12, 0xf80, 2, 3, 0x880};
        for (int what = 0; what < 5; what++) {
            Due.is("count(" + what + ")", y.count(what), due[what]);
        }
    }
}
