/** Promises 12 to 15: what is read, journeys, where they stand, what is believed as they end. */
public final class JourneyTest {
    public static void main(String[] args) {
        read();
        wrongInputs();
        noWays();
        aLieLosesWhoBelievesIt();
        truthFromTheSideSparesAStep();
        eachCallIsOfItsOwn();
        carterTurnsItRound();
        stoneOfHomeIsRead();
        aClearWayCanBeBelievedShut();
        theStartIsNotRead();
        leastPlaceOfLikeOnes();
        roundOnComing();
        roundOnStaying();
        Due.end();
    }

    private static void read() {
        ReadPass x = Due.pass("01,12?,13;1<0:b,2<1:a");
        for (int snow = 0; snow <= 2; snow += 2) {
            x.snow(snow);
            int truth = snow == 0 ? 1 : 0;
            Due.is("from the side", x.read(1, 0), truth);
            Due.is("from 2", x.read(1, 2), 1 - truth);
            Due.is("from 3", x.read(1, 3), 1 - truth);
            Due.is("of a clear way", x.read(2, 1), 1);
        }
        Due.is("read(0, 1)", x.read(0, 1), -4);
        Due.is("read(0, 2)", x.read(0, 2), -2);
        Due.is("read(1, 1)", x.read(1, 1), -2);
        Due.is("read(4, 1)", x.read(4, 1), -2);
        Due.is("read(8, 1)", x.read(8, 1), -1);
        Due.is("read(-1, 1)", x.read(-1, 1), -1);
        Due.is("read(1, 8)", x.read(1, 8), -1);
        Due.is("read(1, -1)", x.read(1, -1), -1);
        x.strike(1);
        Due.is("struck away", x.read(1, 0), -4);
    }

    private static void wrongInputs() {
        ReadPass x = Due.pass("01,17");
        int[] wrong = {-1, Integer.MIN_VALUE, Integer.MAX_VALUE};
        for (int w : wrong) {
            Due.is("walk kind", x.walk(w, 0, 0), -1);
            Due.is("walk from", x.walk(0, w, 0), -1);
            Due.is("walk what", x.walk(0, 0, w), -1);
            Due.is("at kind", x.at(w, 0, 0), -1);
            Due.is("at from", x.at(0, w, 0), -1);
            Due.is("at n", x.at(0, 0, w), -1);
            Due.is("shut kind", x.shut(w, 0), -1);
            Due.is("shut from", x.shut(0, w), -1);
        }
        Due.is("walk kind 4", x.walk(4, 0, 0), -1);
        Due.is("walk from 8", x.walk(0, 8, 0), -1);
        Due.is("walk what 3", x.walk(0, 0, 3), -1);
        Due.is("at kind 4", x.at(4, 0, 0), -1);
        Due.is("at from 8", x.at(0, 8, 0), -1);
        Due.is("at n 100", x.at(0, 0, 100), -1);
        Due.is("at n 99", x.at(0, 0, 99), -4);
        Due.is("at n 2", x.at(0, 0, 2), 7);
        Due.is("at n 3", x.at(0, 0, 3), -4);
        Due.is("shut kind 4", x.shut(4, 0), -1);
        Due.is("shut from 8", x.shut(0, 8), -1);
    }

    private static void noWays() {
        ReadPass x = new ReadPass();
        for (int kind = 0; kind < 4; kind++) {
            walk(x, kind, 2, 1, 0, 2);
            walk(x, kind, 7, 0, 0, 7);
        }
    }

    /** A journey is as told: how it ends, what is believed shut, where it stands. */
    private static void walk(ReadPass x, int kind, int from, int ending, int shut, int... places) {
        String call = "walk(" + kind + ", " + from + ", ";
        Due.is(call + "0)", x.walk(kind, from, 0), places.length - 1);
        Due.is(call + "1)", x.walk(kind, from, 1), ending);
        Due.is(call + "2)", x.walk(kind, from, 2), places[places.length - 1]);
        Due.is("shut(" + kind + ", " + from + ")", x.shut(kind, from), shut);
        for (int n = 0; n <= places.length; n++) {
            Due.is("at(" + kind + ", " + from + ", " + n + ")", x.at(kind, from, n),
                    n < places.length ? places[n] : -4);
        }
    }

    private static void aLieLosesWhoBelievesIt() {
        ReadPass x = Due.pass("04?,01?;0<4:a");
        x.home(4);
        walk(x, 0, 1, 1, 1, 1, 0);
        for (int kind = 1; kind < 4; kind++) {
            walk(x, kind, 1, 0, 0, 1, 0, 4);
        }
        x.snow(1);
        walk(x, 0, 1, 1, 1, 1, 0, 0);
        walk(x, 1, 1, 1, 1, 1, 0, 0);
        walk(x, 2, 1, 1, 1, 1, 0, 0);
        walk(x, 3, 1, 1, 1, 1, 0);
        x.home(1);
        for (int kind = 0; kind < 4; kind++) {
            walk(x, kind, 4, 1, 1, 4, 4);
        }
    }

    private static void truthFromTheSideSparesAStep() {
        ReadPass x = Due.pass("01,12?,13,37,27;1<0:b");
        x.snow(2);
        walk(x, 0, 0, 0, 2, 0, 1, 3, 7);
        walk(x, 1, 0, 0, 2, 0, 1, 3, 7);
        walk(x, 2, 0, 0, 2, 0, 1, 1, 3, 7);
        walk(x, 3, 0, 0, 2, 0, 1, 3, 7);
        x.snow(0);
        for (int kind = 0; kind < 4; kind++) {
            walk(x, kind, 0, 0, 0, 0, 1, 2, 7);
        }
    }

    private static void eachCallIsOfItsOwn() {
        String text = "01,12?,13,37,27;1<3:b";
        Due.is("shut at first", Due.pass(text).shut(0, 0), 2);
        Due.is("at at first", Due.pass(text).at(0, 0, 2), 3);
        ReadPass x = Due.pass(text);
        Due.is("shut(0, 0)", x.shut(0, 0), 2);
        Due.is("shut(1, 0)", x.shut(1, 0), 0);
        x.struck(0, 3, 1);
        x.at(0, 0, 1);
        Due.is("shut(0, 0)", x.shut(0, 0), 2);
        Due.is("shut(0, 7)", x.shut(0, 7), 0);
    }

    private static void carterTurnsItRound() {
        ReadPass x = Due.pass("01,12?,13,37,27;1<3:b");
        x.snow(2);
        walk(x, 0, 0, 0, 2, 0, 1, 1, 3, 7);
        walk(x, 1, 0, 0, 2, 0, 1, 1, 3, 7);
        walk(x, 2, 0, 0, 2, 0, 1, 1, 3, 7);
        walk(x, 3, 0, 0, 2, 0, 1, 3, 7);
        x.snow(0);
        walk(x, 0, 0, 0, 2, 0, 1, 3, 7);
        walk(x, 1, 0, 0, 0, 0, 1, 2, 7);
        walk(x, 2, 0, 0, 0, 0, 1, 2, 7);
        walk(x, 3, 0, 0, 0, 0, 1, 2, 7);
    }

    private static void stoneOfHomeIsRead() {
        ReadPass x = Due.pass("07,17;7<1:a");
        walk(x, 0, 0, 0, 1, 0, 7);
        walk(x, 1, 0, 0, 0, 0, 7);
        walk(x, 2, 0, 0, 0, 0, 7);
        walk(x, 3, 0, 0, 0, 0, 7);
        walk(x, 0, 1, 0, 0, 1, 7);
        walk(x, 0, 7, 0, 0, 7);
    }

    private static void aClearWayCanBeBelievedShut() {
        ReadPass x = Due.pass("01,17;1<7:b");
        walk(x, 0, 0, 1, 2, 0, 1);
        walk(x, 1, 0, 0, 0, 0, 1, 7);
        walk(x, 2, 0, 0, 0, 0, 1, 7);
        walk(x, 3, 0, 0, 0, 0, 1, 7);
    }

    private static void theStartIsNotRead() {
        ReadPass x = Due.pass("01?,17?;1<7:b,0<1:a");
        walk(x, 0, 1, 0, 0, 1, 7);
        x.snow(2);
        walk(x, 0, 1, 1, 2, 1, 1);
        walk(x, 3, 1, 1, 2, 1, 1);
    }

    private static void leastPlaceOfLikeOnes() {
        ReadPass x = Due.pass("05,02,03,57,27,37");
        walk(x, 2, 0, 0, 0, 0, 2, 7);
        x.way(0, 7, true);
        walk(x, 2, 0, 0, 0, 0, 7);
        x.snow(64);
        walk(x, 2, 0, 0, 64, 0, 0, 2, 7);
    }

    private static void roundOnComing() {
        ReadPass x = Due.pass("23,13?,02,01;0<2:b");
        x.home(3);
        x.snow(2);
        walk(x, 0, 0, 2, 0, 0, 1, 1, 0);
        for (int kind = 1; kind < 4; kind++) {
            walk(x, kind, 0, 0, 2, 0, 1, 1, 0, 2, 3);
        }
    }

    private static void roundOnStaying() {
        ReadPass x = Due.pass("23,02?,01,03?,12;1<2:d");
        x.home(3);
        x.snow(10);
        walk(x, 0, 0, 2, 10, 0, 0, 0, 1, 0, 0);
        for (int kind = 1; kind < 4; kind++) {
            walk(x, kind, 0, 0, 10, 0, 0, 0, 1, 2, 3);
        }
    }
}
