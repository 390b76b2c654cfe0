/** The edges that promises 12 to 15 and their terms name: readings, kinds, steps, how journeys end. */
public final class JourneyEdgeTest {
    private static final int HOME = 0, LOST = 1, ROUND = 2;
    /** The literal reader goes a hundred steps from 7 and is lost at 1. */
    private static final String LONG = "15,37,17,67,26?,02?,24?,07,01,47,12?,23?;"
            + "0<7:i,1<0:f,3<2:k,4<2:l,5<1:j,6<2:g,7<0:k";
    private static final String HUNDRED = "7001171100733711700117110074471170011711007337117001"
            + "1711007667117001171100744711700117110073371170011";

    public static void main(String[] args) {
        numbersOfCalls();
        readNumbers();
        readFromTheSide();
        readOfAWayThatIsShut();
        readRefused();
        openAtFirst();
        atHomeItEnds();
        fewestWays();
        leastPlaceOfLikeOnes();
        fewestOfThoseBelievedOpen();
        lost();
        stays();
        staysAtEachOfSix();
        comesThenReads();
        believesOpenThenReads();
        readsAsOneComesAlone();
        readsTheStoneOfHome();
        kindsByOneStone();
        kindsByTwoStones();
        roundAtTheStart();
        roundBehindTheStart();
        notRoundYet();
        eachJourneyAnew();
        behindNSteps();
        aHundredSteps();
        believedShutAsASet();
        Due.end();
    }

    /** A journey is as told: how it ends, what is believed shut, where it stands behind each step. */
    private static void walk(ReadPass x, int kind, int ending, int shut, int... places) {
        int from = places[0];
        int steps = places.length - 1;
        String call = "(" + kind + ", " + from + ")";
        Due.is("steps " + call, x.walk(kind, from, 0), steps);
        Due.is("ending " + call, x.walk(kind, from, 1), ending);
        Due.is("where " + call, x.walk(kind, from, 2), places[steps]);
        Due.is("shut " + call, x.shut(kind, from), shut);
        for (int n = 0; n <= steps; n++) {
            Due.is("at " + n + " " + call, x.at(kind, from, n), places[n]);
        }
        Due.is("at the end and one " + call, x.at(kind, from, steps + 1), -4);
    }

    private static void walkOfAll(ReadPass x, int ending, int shut, int... places) {
        for (int kind = 0; kind < 4; kind++) {
            walk(x, kind, ending, shut, places);
        }
    }

    private static void numbersOfCalls() {
        Due.says("BAD -1 (a number is not as told): KINDS 0 .. 3, PLACES 0 .. 7, what, n STEPS (0 .. 99)");
        ReadPass y = Due.pass(LONG, 2, 3184);
        Due.numbers("walk(n, 7, 0)", y, 0, 3, (x, n) -> x.walk(n, 7, 0));
        Due.numbers("walk(0, n, 0)", y, 0, 7, (x, n) -> x.walk(0, n, 0));
        Due.numbers("walk(0, 7, n)", y, 0, 2, (x, n) -> x.walk(0, 7, n));
        Due.numbers("at(n, 7, 1)", y, 0, 3, (x, n) -> x.at(n, 7, 1));
        Due.numbers("at(0, n, 1)", y, 0, 7, (x, n) -> x.at(0, n, 1));
        Due.numbers("at(0, 7, n)", y, 0, 99, (x, n) -> x.at(0, 7, n));
        Due.numbers("shut(n, 7)", y, 0, 3, (x, n) -> x.shut(n, 7));
        Due.numbers("shut(0, n)", y, 0, 7, (x, n) -> x.shut(0, n));
        // of no ways, too
        Due.numbers("walk(n, 7, 0)", new ReadPass(), 0, 3, (x, n) -> x.walk(n, 7, 0));
        Due.numbers("at(0, 7, n)", new ReadPass(), 0, 99, (x, n) -> x.at(0, 7, n));
    }

    private static void readNumbers() {
        Due.says("read: BAD");
        ReadPass y = Due.pass("01,02,03,04,05,06,07;0<1:a");
        Due.numbers("read(0, n)", y, 0, 7, (x, n) -> x.read(0, n));
        Due.numbers("read(n, 0)", y, 0, 7, (x, n) -> x.read(n, 0));
    }

    private static void readFromTheSide() {
        Due.says("To who comes from its SIDE it tells whether that WAY is OPEN as it is, from another the contrary");
        for (int snow = 0; snow < 2; snow++) {
            ReadPass x = Due.pass("12?,01,02,03,04,05,06,07;0<4:a", 7, snow);
            for (int from = 1; from < 8; from++) {
                Due.is("read(0, " + from + ")", x.read(0, from), from == 4 ? 1 - snow : snow);
            }
        }
        ReadPass x = Due.pass("12?,01,02,03,04,05,06,07;0<4:b", 7, 1);
        Due.is("of a clear way, from the side", x.read(0, 4), 1);
        Due.is("of a clear way, from another", x.read(0, 3), 0);
    }

    private static void readOfAWayThatIsShut() {
        Due.says("What one who comes to a PLACE from another one reads");
        ReadPass x = Due.pass("01?,17?,12;1<0:a,7<1:a", 7, 1);
        Due.is("of the way itself, from the side", x.read(1, 0), 0);
        Due.is("of the way itself, from another", x.read(1, 2), 1);
        Due.is("at home", x.read(7, 1), 0);
        x.snow(0);
        Due.is("from the side", x.read(1, 0), 1);
        Due.is("from another", x.read(1, 2), 0);
    }

    private static void readRefused() {
        Due.says("read: NOT: they are not joined; NONE: there is no STONE");
        ReadPass x = Due.pass("01,12;1<0:a");
        Due.is("not joined", x.read(0, 2), -2);
        Due.is("not joined, a stone", x.read(1, 3), -2);
        Due.is("to itself", x.read(1, 1), -2);
        Due.is("to itself, no stone", x.read(5, 5), -2);
        Due.is("no stone", x.read(0, 1), -4);
        Due.is("no stone", x.read(2, 1), -4);
        x.strike(1);
        Due.is("no stone any more", x.read(1, 0), -4);
    }

    private static void openAtFirst() {
        Due.says("A READER of a KIND believes each WAY OPEN at first");
        ReadPass x = Due.pass("07?,01?,17", 7, 3);
        walkOfAll(x, LOST, 3, 0, 0, 0);
        walkOfAll(x, HOME, 0, 1, 7);
        for (int kind = 0; kind < 4; kind++) {
            Due.is("nothing believed shut at home", x.shut(kind, 7), 0);
        }
    }

    private static void atHomeItEnds() {
        Due.says("at HOME the journey ends");
        ReadPass x = Due.pass("07,17;7<0:a,0<7:a");
        walkOfAll(x, HOME, 0, 7);
        for (int home = 0; home < 8; home++) {
            x.home(home);
            walkOfAll(x, HOME, 0, home);
        }
        x = Due.pass("01,12,23", 1, 0);
        walkOfAll(x, HOME, 0, 0, 1);
        walkOfAll(x, HOME, 0, 3, 2, 1);
    }

    private static void fewestWays() {
        Due.says("to a PLACE from which the fewest WAYS believed OPEN lead HOME");
        walkOfAll(Due.pass("01,12,27,06,67"), HOME, 0, 0, 6, 7);
        walkOfAll(Due.pass("01,17,07"), HOME, 0, 0, 7);
        walkOfAll(Due.pass("03,34,47,05,56,62,27"), HOME, 0, 0, 3, 4, 7);
        walkOfAll(Due.pass("01,12,23,34,45,56,67"), HOME, 0, 0, 1, 2, 3, 4, 5, 6, 7);
        walkOfAll(Due.pass("01,12,23,34,45,56,67,17", 6, 0), HOME, 0, 0, 1, 7, 6);
    }

    private static void leastPlaceOfLikeOnes() {
        Due.says("(of like ones the PLACE of the least number)");
        walkOfAll(Due.pass("05,02,57,27"), HOME, 0, 0, 2, 7);
        walkOfAll(Due.pass("01,02,03,04,05,06,17,27,37,47,57,67"), HOME, 0, 0, 1, 7);
        walkOfAll(Due.pass("76,75,60,50", 0, 0), HOME, 0, 7, 5, 0);
        walkOfAll(Due.pass("46,45,42,60,50,20", 0, 0), HOME, 0, 4, 2, 0);
        walkOfAll(Due.pass("36,30,67,07"), HOME, 0, 3, 0, 7);
        // like are the ways from the place on, whatever their numbers
        walkOfAll(Due.pass("06,62,27,04,43,37"), HOME, 0, 0, 4, 3, 7);
    }

    private static void fewestOfThoseBelievedOpen() {
        Due.says("the fewest WAYS believed OPEN lead HOME");
        ReadPass x = Due.pass("01,17?,02,23,37", 7, 2);
        walkOfAll(x, HOME, 2, 0, 1, 1, 0, 2, 3, 7);
        walkOfAll(x, HOME, 2, 1, 1, 0, 2, 3, 7);
        x = Due.pass("01,17,02,23,37;1<7:b");
        walk(x, 0, HOME, 2, 0, 1, 0, 2, 3, 7);
        walk(x, 1, HOME, 0, 0, 1, 7);
    }

    private static void lost() {
        Due.says("if none leads HOME from anywhere so joined, one is LOST, and the journey ends");
        walkOfAll(new ReadPass(), LOST, 0, 0);
        walkOfAll(new ReadPass(), LOST, 0, 6);
        walkOfAll(Due.pass("67"), LOST, 0, 0);
        walkOfAll(Due.pass("01,12,02,67"), LOST, 0, 0);
        walkOfAll(Due.pass("01,12,02,67"), LOST, 0, 2);
        ReadPass x = Due.pass("01,17;1<7:b");
        walk(x, 0, LOST, 2, 0, 1);
        walk(x, 3, HOME, 0, 0, 1, 7);
        x.home(0);
        walkOfAll(x, LOST, 0, 5);
    }

    private static void stays() {
        Due.says("If the WAY is SHUT, one stays (that is a STEP, too) and believes it SHUT");
        ReadPass x = Due.pass("07?", 7, 1);
        walkOfAll(x, LOST, 1, 0, 0);
        x = Due.pass("07?,01,17", 7, 1);
        walkOfAll(x, HOME, 1, 0, 0, 1, 7);
        x.snow(0);
        walkOfAll(x, HOME, 0, 0, 7);
    }

    private static void staysAtEachOfSix() {
        Due.says("SHUT .. a STEP, too: six of them");
        ReadPass x = Due.pass("01?,02?,03?,04?,05?,06?,17,27,37,47,57,67", 7, 63);
        walkOfAll(x, LOST, 63, 0, 0, 0, 0, 0, 0, 0);
        x.snow(31);
        walkOfAll(x, HOME, 31, 0, 0, 0, 0, 0, 0, 6, 7);
        x.snow(62);
        walkOfAll(x, HOME, 0, 0, 1, 7);
    }

    private static void comesThenReads() {
        Due.says("else one comes to the PLACE, and then reads its STONE, if there is one");
        ReadPass x = Due.pass("01,17,23?;1<0:c", 7, 4);
        walk(x, 0, HOME, 4, 0, 1, 7);
        x.strike(1);
        walk(x, 0, HOME, 0, 0, 1, 7);
        // a stone that lies, at another place than those one comes to
        x = Due.pass("01,17,12;2<1:b");
        walkOfAll(x, HOME, 0, 0, 1, 7);
    }

    private static void believesOpenThenReads() {
        Due.says("believes the WAY OPEN, and then reads its STONE");
        ReadPass x = Due.pass("01,17;1<7:a");
        walk(x, 0, HOME, 1, 0, 1, 7);
        for (int kind = 1; kind < 4; kind++) {
            walk(x, kind, HOME, 0, 0, 1, 7);
        }
    }

    private static void readsAsOneComesAlone() {
        Due.says("one comes to the PLACE .. and then reads its STONE");
        // who sets out from a place, or stays at one, has not come to it
        ReadPass x = Due.pass("01,17;0<1:b");
        walkOfAll(x, HOME, 0, 0, 1, 7);
        x = Due.pass("01,17?;1<7:b", 7, 2);
        walk(x, 0, LOST, 2, 0, 1, 1);
        walk(x, 1, LOST, 2, 0, 1, 1);
        walk(x, 2, LOST, 2, 0, 1, 1);
        walk(x, 3, LOST, 2, 0, 1);
        walkOfAll(x, LOST, 2, 1, 1);
    }

    private static void readsTheStoneOfHome() {
        Due.says("comes to the PLACE .. reads its STONE; A STEP: at HOME the journey ends");
        ReadPass x = Due.pass("07,17;7<1:a");
        walk(x, 0, HOME, 1, 0, 7);
        for (int kind = 1; kind < 4; kind++) {
            walk(x, kind, HOME, 0, 0, 7);
        }
        walkOfAll(x, HOME, 0, 1, 7);
        walkOfAll(x, HOME, 0, 7);
    }

    private static void kindsByOneStone() {
        Due.says("0 LITERAL: believes what it tells; 1 DOUBTER; 2 MUTE; 3 CARTER");
        int[][] fromSide = {{0, 0, 0, 0}, {4, 4, 0, 4}};
        int[][] fromOther = {{4, 0, 0, 0}, {0, 0, 0, 4}};
        for (int snow = 0; snow < 2; snow++) {
            ReadPass x = Due.pass("01,17,23?;1<0:c", 7, 4 * snow);
            ReadPass y = Due.pass("01,17,23?;1<7:c", 7, 4 * snow);
            for (int kind = 0; kind < 4; kind++) {
                walk(x, kind, HOME, fromSide[snow][kind], 0, 1, 7);
                walk(y, kind, HOME, fromOther[snow][kind], 0, 1, 7);
            }
        }
    }

    /** Two stones tell of the same way one behind the other: what is believed can be turned back. */
    private static void kindsByTwoStones() {
        Due.says("LITERAL: the last told; DOUBTER: if one comes from its SIDE, else nothing; CARTER: the contrary");
        for (int k = 0; k < 8; k++) {
            boolean isFirstTrue = (k & 1) == 0;
            boolean isLastTrue = (k & 2) == 0;
            int truth = k >> 2;
            String stones = (isFirstTrue ? ";1<0:d" : ";1<2:d") + (isLastTrue ? ",2<1:d" : ",2<7:d");
            ReadPass x = Due.pass("01,12,27,34?" + stones, 7, 8 * truth);
            walk(x, 0, HOME, 8 * (isLastTrue ? truth : 1 - truth), 0, 1, 2, 7);
            walk(x, 1, HOME, isFirstTrue || isLastTrue ? 8 * truth : 0, 0, 1, 2, 7);
            walk(x, 2, HOME, 0, 0, 1, 2, 7);
            walk(x, 3, HOME, 8 * truth, 0, 1, 2, 7);
        }
    }

    private static void roundAtTheStart() {
        Due.says("If at a PLACE all is believed as it was at it once ahead, it goes ROUND, and the journey ends there");
        ReadPass x = Due.pass("07?,01,12,23,37;1<2:a", 7, 1);
        walk(x, 0, ROUND, 0, 0, 0, 1, 0);
        for (int kind = 1; kind < 4; kind++) {
            walk(x, kind, HOME, 1, 0, 0, 1, 2, 3, 7);
        }
        // from 1 on it is at 0, then at 1 with other beliefs, that it goes on
        walk(x, 0, ROUND, 0, 1, 0, 0, 1);
    }

    private static void roundBehindTheStart() {
        Due.says("as it was at it once ahead in this journey");
        ReadPass x = Due.pass("07?,01,12,23,37,04,45;1<2:a", 7, 1);
        walk(x, 0, ROUND, 0, 5, 4, 0, 0, 1, 0);
        walk(x, 1, HOME, 1, 5, 4, 0, 0, 1, 2, 3, 7);
        // one stays, and is where all is believed as it was
        x = Due.pass("23,02?,01,03?,12;1<2:d", 3, 10);
        walk(x, 0, ROUND, 10, 0, 0, 0, 1, 0, 0);
        // six ways are found shut one after the other; then the lie of 1 and the truth of 2 change about
        x = Due.pass("47?,41?,43?,42?,27?,13?,17,12,01,23,37,40;1<7:g,2<1:g", 7, 63);
        walk(x, 0, ROUND, 127, 4, 4, 4, 4, 4, 0, 1, 2, 2, 1, 1, 2, 1);
    }

    private static void notRoundYet() {
        Due.says("all is believed as it was at it: not at another PLACE, not if other things are believed");
        // at 1 twice, then with another belief; at each place of a line with the same
        ReadPass x = Due.pass("01,17?,02,23,37", 7, 2);
        walkOfAll(x, HOME, 2, 1, 1, 0, 2, 3, 7);
        x = Due.pass("10,02,21?,17?,26,67", 7, 12);
        walkOfAll(x, HOME, 12, 1, 1, 1, 0, 2, 6, 7);
        x = Due.pass("01,12,23,34,45,56,67");
        walkOfAll(x, HOME, 0, 0, 1, 2, 3, 4, 5, 6, 7);
    }

    private static void eachJourneyAnew() {
        Due.says("in this journey");
        ReadPass x = Due.pass("07?,01,12,23,37;1<2:a", 7, 1);
        for (int k = 0; k < 3; k++) {
            Due.is("steps", x.walk(0, 0, 0), 3);
            Due.is("ending", x.walk(0, 0, 1), ROUND);
            Due.is("of a doubter", x.walk(1, 0, 1), HOME);
            Due.is("shut of a doubter", x.shut(1, 0), 1);
            Due.is("shut", x.shut(0, 0), 0);
            Due.is("at", x.at(0, 0, 1), 0);
        }
    }

    private static void behindNSteps() {
        Due.says("Where the READER stands behind n STEPS (0 .. 99). NONE: the journey has ended ahead.");
        for (int kind = 0; kind < 4; kind++) {
            ReadPass x = Due.pass("07?,67", 7, 1);
            Due.is("behind none", x.at(kind, 0, 0), 0);
            Due.is("behind the last, lost", x.at(kind, 0, 1), 0);
            Due.is("one more", x.at(kind, 0, 2), -4);
            Due.is("99", x.at(kind, 0, 99), -4);
            Due.is("100", x.at(kind, 0, 100), -1);
            Due.is("-1", x.at(kind, 0, -1), -1);
            Due.is("at home, none", x.at(kind, 7, 0), 7);
            Due.is("at home, one", x.at(kind, 7, 1), -4);
            Due.is("lost at once, none", x.at(kind, 3, 0), 3);
            Due.is("lost at once, one", x.at(kind, 3, 1), -4);
            Due.is("behind the last, home", x.at(kind, 6, 1), 7);
        }
    }

    private static void aHundredSteps() {
        Due.says("n STEPS (0 .. 99); a journey: how many STEPS it has");
        ReadPass x = Due.pass(LONG, 2, 3184);
        for (int n = 0; n < 100; n++) {
            Due.is("at(0, 7, " + n + ")", x.at(0, 7, n), HUNDRED.charAt(n) - '0');
        }
        Due.is("at(0, 7, 100), though there is such a step", x.at(0, 7, 100), -1);
        Due.is("steps", x.walk(0, 7, 0), 100);
        Due.is("ending", x.walk(0, 7, 1), LOST);
        Due.is("where", x.walk(0, 7, 2), 1);
        Due.is("shut", x.shut(0, 7), 3184);
        x = Due.pass("06,03?,45?,25,17,27?,15?,35,34?,46?,02,16;0<2:c,1<6:e,2<7:i,3<0:g,4<5:i,5<4:j,6<0:b", 4, 868);
        Due.is("steps", x.walk(0, 7, 0), 113);
        Due.is("ending", x.walk(0, 7, 1), ROUND);
        Due.is("where", x.walk(0, 7, 2), 1);
        Due.is("shut", x.shut(0, 7), 800);
        Due.is("at(0, 7, 99)", x.at(0, 7, 99), 3);
    }

    private static void believedShutAsASet() {
        Due.says("WAYS believed SHUT as the journey ends, as a set");
        ReadPass x = Due.pass("17,27,37,47,57,67,01?,02?,03?,04?,05?,06?", 7, 0xfc0);
        walkOfAll(x, LOST, 0xfc0, 0, 0, 0, 0, 0, 0, 0);
        for (int w = 0; w < 12; w++) {
            String ways = "01,17,23,24,25,26,34,35,36,45,46,56";
            ReadPass y = Due.pass(ways + ";1<7:" + (char) ('a' + w));
            if (w == 1) {
                walk(y, 0, LOST, 2, 0, 1);
            } else {
                walk(y, 0, HOME, 1 << w, 0, 1, 7);
            }
        }
        Due.is("of a clear way that one believes shut", Due.pass("01,17;1<7:a").shut(0, 0), 1);
        Due.is("none", new ReadPass().shut(0, 0), 0);
    }
}
