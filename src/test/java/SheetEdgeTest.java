/** The edges that promises 21 to 26 and their terms name: tracks, films, sheets. */
public final class SheetEdgeTest {
    private static final int BAD = -1, NONE = -4, NULL = -11, CAST = -12, INDEX = -13, SIZE = -14;
    private static final int MIN = Integer.MIN_VALUE, MAX = Integer.MAX_VALUE;
    /** The literal reader goes a hundred steps from 7; home is 2 and the snow 3184. */
    private static final String LONG = "15,37,17,67,26?,02?,24?,07,01,47,12?,23?;"
            + "0<7:i,1<0:f,3<2:k,4<2:l,5<1:j,6<2:g,7<0:k";
    private static final String FIRST = "001171100733711700117110";
    /** Home by each place. */
    private static final String LINE = "01,12,23,34,45,56,67";

    public static void main(String[] args) {
        trackNumbers();
        trackNull();
        trackCast();
        trackIndex();
        trackNoneOfNoSnow();
        trackOfOneToTwentyFour();
        trackLongerThanTheJourney();
        trackOfItemsThatAreNoPlaces();
        trackOfAllSnows();
        sureIsOfDoubtfulWays();
        filmNumbers();
        filmNullCastIndex();
        filmOfAsManyAsTheJourneyHas();
        filmOfNone();
        filmOfOneToTwentyFour();
        sheetNumbers();
        sheetSize();
        sheetIsNew();
        drops();
        itemNumbers();
        itemNullCastIndex();
        itemLowestBits();
        copyNumbers();
        copyNull();
        copyCast();
        copyIndex();
        copyOfNone();
        copyOfAll();
        copyAsIfTakenAhead();
        copyToAnother();
        Due.end();
    }

    private static ReadPass longOne() {
        return Due.pass(LONG, 2, 3184);
    }

    private static void trackNumbers() {
        Due.says("track: BAD; n STEPS (1 .. 24), how many SNOWS (0), SURE to be SHUT (1), OPEN (2)");
        ReadPass y = longOne();
        for (int s = 0; s < 4; s++) {
            y.sheet(s, s % 3, 24);
        }
        Due.numbers("track, kind", y, 0, 3, (x, n) -> x.track(n, 7, 0, 0, 0, 1, 0));
        Due.numbers("track, from", y, 0, 7, (x, n) -> x.track(0, n, 0, 0, 0, 1, 0));
        Due.numbers("track, sheet", y, 0, 3, (x, n) -> x.track(0, 7, n, 0, 0, 1, 0));
        Due.numbers("track, lane", y, 0, 2, (x, n) -> x.track(0, 7, 0, n, 0, 1, 0));
        Due.numbers("track, n", y, 1, 24, (x, n) -> x.track(0, 7, 0, 0, 0, n, 0));
        Due.numbers("track, what", y, 0, 2, (x, n) -> x.track(0, 7, 0, 0, 0, 1, n));
        Due.is("n 0, i 24", y.track(0, 7, 0, 0, 24, 0, 0), BAD);
        Due.is("n -1", y.track(0, 7, 0, 0, 5, -1, 0), BAD);
    }

    private static void trackNull() {
        Due.says("NULL, CAST, INDEX, SIZE in this order: NULL");
        ReadPass x = longOne();
        for (int s = 0; s < 4; s++) {
            Due.is("nothing", x.track(0, 7, s, 2, 0, 1, 0), NULL);
            Due.is("nothing, i -1", x.track(0, 7, s, 0, -1, 24, 2), NULL);
            x.sheet(s, 2, 0);
            Due.is("an empty row is not nothing", x.track(0, 7, s, 2, 0, 1, 0), INDEX);
            x.drop(s);
            Due.is("nothing again", x.track(0, 7, s, 2, 0, 1, 0), NULL);
        }
    }

    private static void trackCast() {
        Due.says("CAST -12 (of SHEETS another LANE)");
        ReadPass x = longOne();
        for (int lane = 0; lane < 3; lane++) {
            x.sheet(0, lane, 24);
            for (int as = 0; as < 3; as++) {
                Due.is("track of " + lane + " as " + as, x.track(0, 7, 0, as, 0, 24, 0), as == lane ? 0 : CAST);
                Due.is("i -1", x.track(0, 7, 0, as, -1, 24, 0), as == lane ? INDEX : CAST);
                Due.is("film of " + lane + " as " + as, x.film(0, 3, 0, as, 25, 1), as == lane ? INDEX : CAST);
                Due.is("item of " + lane + " as " + as, x.item(0, as, 24, 0), as == lane ? INDEX : CAST);
            }
        }
    }

    private static void trackIndex() {
        Due.says("INDEX: items of a SHEET from item i on");
        ReadPass x = longOne();
        Due.row(x, 1, 2, 6, 6, 6, 6, 6, 6, 6, 6, 6, 6);
        int[][] due = {{-1, 1, 1}, {0, 10, 0}, {0, 11, 1}, {1, 10, 1}, {1, 9, 0}, {9, 1, 0}, {9, 2, 1}, {10, 1, 1},
            {11, 1, 1}, {-1, 24, 1}, {-24, 24, 1}, {MIN, 1, 1}, {MIN, 24, 1}, {MAX, 1, 1}, {MAX - 1, 24, 1}, {0, 24, 1}};
        for (int[] d : due) {
            Due.is("i " + d[0] + ", n " + d[1], x.track(0, 7, 1, 2, d[0], d[1], 0), d[2] == 1 ? INDEX : 0);
            Due.is("sure, i " + d[0] + ", n " + d[1], x.track(0, 7, 1, 2, d[0], d[1], 1), d[2] == 1 ? INDEX : NONE);
        }
        x.sheet(1, 2, 24);
        Due.is("all", x.track(0, 7, 1, 2, 0, 24, 0), 0);
        Due.is("beyond a full row", x.track(0, 7, 1, 2, 1, 24, 0), INDEX);
    }

    private static void trackNoneOfNoSnow() {
        Due.says("NONE: there is no such SNOW (1, 2)");
        ReadPass x = Due.pass("07?,01");
        Due.row(x, 0, 0, 6, 7, 0);
        Due.is("how many", x.track(0, 0, 0, 0, 0, 1, 0), 0);
        Due.is("shut", x.track(0, 0, 0, 0, 0, 1, 1), NONE);
        Due.is("open", x.track(0, 0, 0, 0, 0, 1, 2), NONE);
        Due.is("how many", x.track(0, 0, 0, 0, 1, 1, 0), 1);
        Due.is("shut", x.track(0, 0, 0, 0, 1, 1, 1), 0);
        Due.is("open", x.track(0, 0, 0, 0, 1, 1, 2), 1);
        Due.is("how many", x.track(0, 0, 0, 0, 2, 1, 0), 1);
        Due.is("shut", x.track(0, 0, 0, 0, 2, 1, 1), 1);
        Due.is("open", x.track(0, 0, 0, 0, 2, 1, 2), 0);
        Due.is("of no ways", new ReadPass().sheet(0, 0, 1), 1);
        ReadPass y = new ReadPass();
        y.sheet(0, 0, 1);
        Due.is("of no ways, how many", y.track(0, 0, 0, 0, 0, 1, 0), 0);
        Due.is("of no ways, shut", y.track(0, 0, 0, 0, 0, 1, 1), NONE);
    }

    private static void trackOfOneToTwentyFour() {
        Due.says("A TRACK of n STEPS (1 .. 24): PLACES at which a READER stands behind STEPS 1, 2 .. n");
        int[] snows = {32, 16, 16, 8, 8, 8, 8, 8};
        int[] shut = {0, 32, 32, 1056, 1056, 1056, 1056, 1056};
        for (int lane = 0; lane < 3; lane++) {
            ReadPass x = longOne();
            x.sheet(0, lane, 24);
            for (int i = 0; i < 24; i++) {
                x.item(0, lane, i, FIRST.charAt(i) - '0');
            }
            for (int n : new int[] {1, 2, 3, 5, 8}) {
                Due.is("snows, n " + n, x.track(0, 7, 0, lane, 0, n, 0), snows[n - 1]);
                Due.is("shut, n " + n, x.track(0, 7, 0, lane, 0, n, 1), shut[n - 1]);
            }
            Due.is("snows, n 24", x.track(0, 7, 0, lane, 0, 24, 0), 4);
            Due.is("shut, n 24", x.track(0, 7, 0, lane, 0, 24, 1), 3104);
            Due.is("open, n 24", x.track(0, 7, 0, lane, 0, 24, 2), 0);
            for (int i = 0; i < 24; i++) {
                x.item(0, lane, i, FIRST.charAt(i) - '0' ^ 2);
                Due.is("another place behind " + (i + 1), x.track(0, 7, 0, lane, 0, 24, 0), 0);
                x.item(0, lane, i, FIRST.charAt(i) - '0');
            }
        }
    }

    private static void trackLongerThanTheJourney() {
        Due.says("PLACES at which a READER stands behind STEPS 1, 2 .. n from a PLACE on");
        ReadPass x = Due.pass("07?,17");
        Due.row(x, 0, 1, 0, 0, 7, 7);
        Due.is("he stays once", x.track(2, 0, 0, 1, 0, 1, 0), 1);
        Due.is("he is lost, and stays not twice", x.track(2, 0, 0, 1, 0, 2, 0), 0);
        Due.is("he comes home", x.track(2, 0, 0, 1, 2, 1, 0), 1);
        Due.is("he is at home, and stays not there", x.track(2, 0, 0, 1, 2, 2, 0), 0);
        Due.is("from home on there is none", x.track(2, 7, 0, 1, 2, 1, 0), 0);
        Due.is("lost at once there is none", x.track(2, 5, 0, 1, 2, 1, 0), 0);
        x = Due.pass("07?,01,12,23,37;1<2:a");
        Due.row(x, 0, 1, 0, 1, 0, 0, 0);
        Due.is("round, as far as it goes", x.track(0, 0, 0, 1, 0, 3, 0), 1);
        Due.is("round, and no more steps", x.track(0, 0, 0, 1, 0, 4, 0), 0);
    }

    private static void trackOfItemsThatAreNoPlaces() {
        Due.says("PLACES at which a READER stands");
        long[] wrong = {-1, 8, 7 | 16, 7 | 128, 7 - 8, -7, 127, -128};
        long[] wide = {7 | 256, 7 - 256, 7 | 32768, 263};
        long[] wider = {7 | 65536, 7 | 1L << 32, 7 | Long.MIN_VALUE, 7 | 1L << 40, Long.MAX_VALUE, Long.MIN_VALUE};
        for (int lane = 0; lane < 3; lane++) {
            ReadPass x = Due.pass("07");
            x.sheet(0, lane, 1);
            none(x, lane, wrong);
            if (lane > 0) {
                none(x, lane, wide);
            }
            if (lane > 1) {
                none(x, lane, wider);
            }
            x.item(0, lane, 0, 7);
            Due.is("7", x.track(0, 0, 0, lane, 0, 1, 0), 1);
        }
    }

    private static void none(ReadPass x, int lane, long[] items) {
        for (long v : items) {
            x.item(0, lane, 0, v);
            Due.is("lane " + lane + " item " + v, x.track(0, 0, 0, lane, 0, 1, 0), 0);
        }
    }

    private static void trackOfAllSnows() {
        Due.says("SNOWS by which it would be so: how many");
        String doubtful = "";
        for (int k = 0; k <= 6; k++) {
            ReadPass x = Due.pass("07" + doubtful);
            Due.row(x, 0, 0, 7);
            Due.is("none matters of " + k, x.track(2, 0, 0, 0, 0, 1, 0), 1 << k);
            Due.is("shut", x.track(2, 0, 0, 0, 0, 1, 1), 0);
            Due.is("open", x.track(2, 0, 0, 0, 0, 1, 2), 0);
            doubtful = doubtful + ",1" + (k == 0 ? 7 : k + 1) + "?";
        }
        ReadPass x = Due.pass("01?,02?,03?,04?,05?,06?,17,27,37,47,57,67", 7, 9);
        Due.row(x, 0, 0, 0, 0, 0, 0, 0, 0, 1, 7);
        for (int n = 1; n <= 6; n++) {
            Due.is("the first " + n + " are shut", x.track(2, 0, 0, 0, 0, n, 0), 1 << 6 - n);
            Due.is("sure", x.track(2, 0, 0, 0, 0, n, 1), (1 << n) - 1);
            Due.is("sure to be open", x.track(2, 0, 0, 0, 0, n, 2), 0);
        }
        Due.is("the first is open", x.track(2, 0, 0, 0, 6, 2, 0), 32);
        Due.is("sure to be open", x.track(2, 0, 0, 0, 6, 2, 2), 1);
        Due.is("not the second way, then the first", x.track(2, 0, 0, 0, 5, 2, 0), 0);
        x.item(0, 0, 6, 6);
        Due.is("the sixth alone is open", x.track(2, 0, 0, 0, 1, 6, 0), 1);
        Due.is("sure", x.track(2, 0, 0, 0, 1, 6, 1), 31);
        Due.is("sure to be open", x.track(2, 0, 0, 0, 1, 6, 2), 32);
        Due.is("the snow that is now stays", x.count(4), 9);
    }

    private static void sureIsOfDoubtfulWays() {
        Due.says("SURE: DOUBTFUL WAYS that are SHUT in all of these, OPEN in all of these");
        ReadPass x = Due.pass("12,01?,17?,35");
        Due.row(x, 0, 2, 1, 7, 1, 1);
        Due.is("both open", x.track(3, 0, 0, 2, 0, 2, 2), 6);
        Due.is("none shut", x.track(3, 0, 0, 2, 0, 2, 1), 0);
        Due.is("one snow", x.track(3, 0, 0, 2, 0, 2, 0), 1);
        Due.is("one open", x.track(3, 0, 0, 2, 2, 2, 2), 2);
        Due.is("one shut", x.track(3, 0, 0, 2, 2, 2, 1), 4);
        x = Due.pass("07,12");
        Due.row(x, 0, 2, 7);
        Due.is("of clear ways none", x.track(3, 0, 0, 2, 0, 1, 2), 0);
    }

    private static void filmNumbers() {
        Due.says("film: BAD; STEPS 1 .. n (1 .. 24)");
        ReadPass y = longOne();
        for (int s = 0; s < 4; s++) {
            y.sheet(s, s % 3, 24);
        }
        Due.numbers("film, kind", y, 0, 3, (x, n) -> x.film(n, 7, 0, 0, 0, 1));
        Due.numbers("film, from", y, 0, 7, (x, n) -> x.film(0, n, 0, 0, 0, 1));
        Due.numbers("film, sheet", y, 0, 3, (x, n) -> x.film(0, 7, n, 0, 0, 1));
        Due.numbers("film, lane", y, 0, 2, (x, n) -> x.film(0, 7, 0, n, 0, 1));
        Due.numbers("film, n", y, 1, 24, (x, n) -> x.film(0, 7, 0, 0, 0, n));
        Due.is("n 0 at home", y.film(0, 2, 0, 0, 0, 0), BAD);
        Due.is("n 25 at home", y.film(0, 2, 0, 0, 0, 25), BAD);
    }

    private static void filmNullCastIndex() {
        Due.says("film: NULL; CAST; INDEX");
        ReadPass x = Due.pass(LINE);
        x.sheet(0, 1, 5);
        Due.is("nothing, i -1", x.film(0, 0, 1, 1, -1, 3), NULL);
        Due.is("another lane, i -1", x.film(0, 0, 0, 2, -1, 3), CAST);
        int[][] due = {{0, 5, 5}, {0, 6, INDEX}, {1, 4, 4}, {1, 5, INDEX}, {4, 1, 1}, {4, 2, INDEX}, {5, 1, INDEX},
            {6, 1, INDEX}, {-1, 1, INDEX}, {-1, 6, INDEX}, {MIN, 1, INDEX}, {MAX, 1, INDEX}, {MAX, 24, INDEX}};
        for (int[] d : due) {
            Due.is("i " + d[0] + ", n " + d[1], x.film(0, 0, 0, 1, d[0], d[1]), d[2]);
        }
        x.drop(0);
        Due.is("nothing again", x.film(0, 0, 0, 1, 0, 1), NULL);
    }

    private static void filmOfAsManyAsTheJourneyHas() {
        Due.says("as many as the journey has (the row needs no more items): how many");
        ReadPass x = Due.pass(LINE);
        for (int from = 0; from < 7; from++) {
            int steps = 7 - from;
            x.sheet(0, 0, steps);
            Due.is("just the room", x.film(0, from, 0, 0, 0, 24), steps);
            Due.is("it is there", x.track(0, from, 0, 0, 0, steps, 0), 1);
            Due.is("no room", x.film(0, from, 0, 0, 1, 24), INDEX);
            Due.is("room for one less", x.film(0, from, 0, 0, 1, steps - 1), steps == 1 ? BAD : steps - 1);
        }
        Due.row(x, 1, 0, 3, 3, 3, 3, 3, 3);
        Due.is("two steps from item 2", x.film(0, 5, 1, 0, 2, 24), 2);
        Due.is("ahead of them it is as it was", x.track(0, 2, 1, 0, 1, 1, 0), 1);
        Due.is("behind them it is as it was", x.track(0, 2, 1, 0, 4, 1, 0), 1);
        Due.is("they are there", x.track(0, 5, 1, 0, 2, 2, 0), 1);
        Due.row(x, 1, 0, 3, 3, 3, 3);
        Due.is("n 2 of seven steps", x.film(0, 0, 1, 0, 0, 2), 2);
        Due.is("they are there", x.track(0, 0, 1, 0, 0, 2, 0), 1);
        Due.is("no third", x.track(0, 2, 1, 0, 2, 1, 0), 1);
    }

    private static void filmOfNone() {
        Due.says("INDEX also where no item is taken, if i is below 0, or above how many there are");
        ReadPass x = Due.pass(LINE);
        x.sheet(0, 2, 4);
        x.sheet(1, 2, 0);
        x.sheet(2, 2, 24);
        int[] due = {INDEX, 0, 0, 0, 0, 0, INDEX, INDEX};
        for (int i = -1; i < 7; i++) {
            Due.is("at home, i " + i, x.film(0, 7, 0, 2, i, 24), due[i + 1]);
        }
        Due.is("an empty row, i -1", x.film(0, 7, 1, 2, -1, 1), INDEX);
        Due.is("an empty row, i 0", x.film(0, 7, 1, 2, 0, 1), 0);
        Due.is("an empty row, i 1", x.film(0, 7, 1, 2, 1, 1), INDEX);
        Due.is("a full row, i 24", x.film(0, 7, 2, 2, 24, 1), 0);
        Due.is("a full row, i 25", x.film(0, 7, 2, 2, 25, 1), INDEX);
        Due.is("i MIN", x.film(0, 7, 0, 2, MIN, 1), INDEX);
        Due.is("i MAX", x.film(0, 7, 0, 2, MAX, 1), INDEX);
        x.home(0);
        x.snow(0);
        ReadPass y = new ReadPass();
        y.sheet(0, 0, 2);
        Due.is("lost at once, i 2", y.film(0, 0, 0, 0, 2, 1), 0);
        Due.is("lost at once, i 3", y.film(0, 0, 0, 0, 3, 1), INDEX);
    }

    private static void filmOfOneToTwentyFour() {
        Due.says("STEPS 1 .. n (1 .. 24) come to a SHEET");
        for (int lane = 0; lane < 3; lane++) {
            ReadPass x = longOne();
            x.sheet(3, lane, 24);
            Due.is("film", x.film(0, 7, 3, lane, 0, 24), 24);
            Due.is("track", x.track(0, 7, 3, lane, 0, 24, 0), 4);
            Due.is("no room", x.film(0, 7, 3, lane, 1, 24), INDEX);
            x.sheet(3, lane, 23);
            Due.is("no room", x.film(0, 7, 3, lane, 0, 24), INDEX);
            Due.is("film", x.film(0, 7, 3, lane, 0, 23), 23);
            Due.is("one", x.film(0, 7, 3, lane, 22, 1), 1);
        }
    }

    private static void sheetNumbers() {
        Due.says("sheets 0 .. 3; a LANE: 0 bytes, 1 shorts, 2 longs; 0 to 24 items. BAD: also n above 24");
        Due.numbers("sheet(n, 0, 1)", new ReadPass(), 0, 3, (x, n) -> x.sheet(n, 0, 1));
        Due.numbers("sheet(0, n, 1)", new ReadPass(), 0, 2, (x, n) -> x.sheet(0, n, 1));
        Due.numbers("drop(n)", new ReadPass(), 0, 3, (x, n) -> x.drop(n));
        ReadPass x = new ReadPass();
        Due.is("n 25", x.sheet(0, 0, 25), BAD);
        Due.is("n MAX", x.sheet(0, 0, MAX), BAD);
        Due.is("still nothing", x.drop(0), NULL);
        for (int n = 0; n <= 24; n++) {
            Due.is("n " + n, x.sheet(n & 3, n % 3, n), n);
            Due.is("the last item", x.item(n & 3, n % 3, n - 1, 1), n == 0 ? INDEX : 1);
            Due.is("one beyond", x.item(n & 3, n % 3, n, 1), INDEX);
        }
    }

    private static void sheetSize() {
        Due.says("SIZE: n below 0");
        ReadPass x = new ReadPass();
        Due.is("n -1", x.sheet(0, 0, -1), SIZE);
        Due.is("n -25", x.sheet(0, 2, -25), SIZE);
        Due.is("n MIN", x.sheet(0, 0, MIN), SIZE);
        Due.is("sheet -1, n -1", x.sheet(-1, 0, -1), BAD);
        Due.is("sheet 4, n -1", x.sheet(4, 0, -1), BAD);
        Due.is("lane 3, n -1", x.sheet(0, 3, -1), BAD);
        Due.is("lane -1, n MIN", x.sheet(0, -1, MIN), BAD);
        Due.is("still nothing", x.drop(0), NULL);
        x.sheet(0, 1, 3);
        Due.is("n -1", x.sheet(0, 1, -1), SIZE);
        Due.is("it stays", x.drop(0), 3);
    }

    private static void sheetIsNew() {
        Due.says("A SHEET holds a new row of a LANE");
        for (int lane = 0; lane < 3; lane++) {
            ReadPass x = Due.pass("10", 0, 0);
            fill(x, lane);
            x.sheet(0, lane, 2);
            x.sheet(0, lane, 24);
            holdsNoughts(x, lane);
            fill(x, lane);
            x.drop(0);
            x.sheet(0, lane, 24);
            holdsNoughts(x, lane);
            fill(x, lane);
            x.sheet(0, (lane + 1) % 3, 24);
            holdsNoughts(x, (lane + 1) % 3);
        }
    }

    private static void fill(ReadPass x, int lane) {
        x.sheet(0, lane, 24);
        for (int i = 0; i < 24; i++) {
            Due.is("item " + i, x.item(0, lane, i, -1), 1);
        }
    }

    /** From 1 one comes home to 0, so that a row of one nought is a track. */
    private static void holdsNoughts(ReadPass x, int lane) {
        for (int i = 0; i < 24; i++) {
            Due.is("item " + i + " is 0", x.track(2, 1, 0, lane, i, 1, 0), 1);
        }
    }

    private static void drops() {
        Due.says("A SHEET holds nothing: how many items it had. BAD; NULL.");
        ReadPass x = new ReadPass();
        for (int s = 0; s < 4; s++) {
            Due.is("nothing at first", x.drop(s), NULL);
            x.sheet(s, 2 - s % 3, 8 * s);
        }
        for (int s = 3; s >= 0; s--) {
            Due.is("drop " + s, x.drop(s), 8 * s);
            Due.is("drop again", x.drop(s), NULL);
            Due.is("of it", x.item(s, 2 - s % 3, 0, 0), NULL);
        }
    }

    private static void itemNumbers() {
        Due.says("item: BAD");
        ReadPass y = new ReadPass();
        for (int s = 0; s < 4; s++) {
            y.sheet(s, s % 3, 24);
        }
        Due.numbers("item, sheet", y, 0, 3, (x, n) -> x.item(n, 0, 0, 0));
        Due.numbers("item, lane", y, 0, 2, (x, n) -> x.item(0, n, 0, 0));
        Due.is("lane 3 of nothing", new ReadPass().item(0, 3, 0, 0), BAD);
    }

    private static void itemNullCastIndex() {
        Due.says("item: NULL; CAST; INDEX");
        ReadPass x = new ReadPass();
        Due.is("nothing", x.item(2, 1, -1, 0), NULL);
        for (int n = 0; n <= 24; n += 6) {
            x.sheet(2, 1, n);
            Due.is("another lane", x.item(2, 0, -1, 0), CAST);
            Due.is("another lane", x.item(2, 2, n, 0), CAST);
            for (int i = -2; i < n + 3; i++) {
                Due.is("i " + i + " of " + n, x.item(2, 1, i, 0), i >= 0 && i < n ? 1 : INDEX);
            }
            Due.is("i MIN", x.item(2, 1, MIN, 0), INDEX);
            Due.is("i MAX", x.item(2, 1, MAX, 0), INDEX);
        }
    }

    private static void itemLowestBits() {
        Due.says("becomes v, its lowest bits; 0 bytes, 1 shorts, 2 longs (all with a sign)");
        int[] bits = {8, 16, 64};
        for (int lane = 0; lane < 3; lane++) {
            ReadPass x = Due.pass("07");
            x.sheet(0, lane, 1);
            for (int bit = 3; bit < 64; bit++) {
                x.item(0, lane, 0, 7 | 1L << bit);
                int want = bit >= bits[lane] ? 1 : 0;
                Due.is("lane " + lane + ", bit " + bit, x.track(0, 0, 0, lane, 0, 1, 0), want);
                x.item(0, lane, 0, 7 | -1L << bit);
                Due.is("lane " + lane + ", bits from " + bit, x.track(0, 0, 0, lane, 0, 1, 0), want);
            }
        }
    }

    private static void copyNumbers() {
        Due.says("copy: BAD");
        ReadPass y = new ReadPass();
        for (int s = 0; s < 4; s++) {
            y.sheet(s, 1, 24);
        }
        Due.numbers("copy, from", y, 0, 3, (x, n) -> x.copy(n, 0, 0, 0, 1));
        Due.numbers("copy, to", y, 0, 3, (x, n) -> x.copy(0, 0, n, 0, 1));
        Due.is("both", y.copy(4, 0, -1, 0, 1), BAD);
        ReadPass z = new ReadPass();
        Due.is("from 4 to nothing", z.copy(4, 0, 0, 0, 0), BAD);
        Due.is("from nothing to 4", z.copy(0, 0, 4, 0, 0), BAD);
    }

    private static void copyNull() {
        Due.says("copy: NULL (either)");
        ReadPass x = new ReadPass();
        Due.is("both", x.copy(0, 0, 1, 0, 0), NULL);
        Due.is("one", x.copy(0, 0, 0, 0, 0), NULL);
        x.sheet(0, 0, 3);
        Due.is("to nothing", x.copy(0, 0, 1, 0, 0), NULL);
        Due.is("from nothing", x.copy(1, 0, 0, 0, 0), NULL);
        Due.is("to nothing, n -1", x.copy(0, 0, 1, 0, -1), NULL);
        Due.is("from nothing, j 4", x.copy(1, 0, 0, 4, 0), NULL);
        Due.is("neither", x.copy(0, 0, 0, 0, 0), 0);
    }

    private static void copyCast() {
        Due.says("CAST: of unlike LANES");
        for (int a = 0; a < 3; a++) {
            for (int b = 0; b < 3; b++) {
                ReadPass x = new ReadPass();
                x.sheet(0, a, 2);
                x.sheet(1, b, 2);
                Due.is("from " + a + " to " + b, x.copy(0, 0, 1, 0, 2), a == b ? 2 : CAST);
                Due.is("n 0", x.copy(0, 0, 1, 0, 0), a == b ? 0 : CAST);
                Due.is("n -1", x.copy(0, 0, 1, 0, -1), a == b ? INDEX : CAST);
                Due.is("i 3", x.copy(0, 3, 1, 0, 0), a == b ? INDEX : CAST);
            }
        }
    }

    private static void copyIndex() {
        Due.says("INDEX (n below 0, too)");
        ReadPass x = new ReadPass();
        x.sheet(0, 0, 5);
        x.sheet(1, 0, 3);
        int[][] wrong = {{0, 0, -1}, {0, 0, MIN}, {5, 3, -1}, {1, 1, -1}, {-1, 0, 1}, {0, -1, 1}, {0, 0, 4}, {2, 0, 4},
            {3, 0, 3}, {5, 0, 1}, {0, 3, 1}, {0, 1, 3}, {MAX, 0, 1}, {0, MAX, 1}, {1, 1, MAX}, {MIN, 0, 1}, {0, MIN, 1},
            {MIN, MIN, MIN}, {MAX, MAX, MAX}, {-1, 0, 3}, {6, 0, -1}, {4, 0, 2}};
        for (int[] w : wrong) {
            Due.is("i " + w[0] + ", j " + w[1] + ", n " + w[2], x.copy(0, w[0], 1, w[1], w[2]), INDEX);
        }
        int[][] right = {{0, 0, 3}, {2, 0, 3}, {4, 2, 1}, {3, 1, 2}, {0, 2, 1}};
        for (int[] r : right) {
            Due.is("i " + r[0] + ", j " + r[1] + ", n " + r[2], x.copy(0, r[0], 1, r[1], r[2]), r[2]);
            Due.is("back", x.copy(1, r[1], 0, r[0], r[2]), r[2]);
        }
        Due.is("four from the row of three", x.copy(1, 0, 0, 0, 4), INDEX);
    }

    private static void copyOfNone() {
        Due.says("with n 0, too, if i or j is above how many there are");
        ReadPass x = new ReadPass();
        x.sheet(0, 2, 5);
        x.sheet(1, 2, 0);
        for (int i = -2; i < 9; i++) {
            boolean isThere = i >= 0 && i <= 5;
            Due.is("i " + i, x.copy(0, i, 1, 0, 0), isThere ? 0 : INDEX);
            Due.is("j " + i, x.copy(1, 0, 0, i, 0), isThere ? 0 : INDEX);
            Due.is("i, j " + i, x.copy(0, i, 0, i, 0), isThere ? 0 : INDEX);
        }
        Due.is("i 1 of an empty row", x.copy(1, 1, 0, 0, 0), INDEX);
        Due.is("j 1 of an empty row", x.copy(0, 0, 1, 1, 0), INDEX);
        Due.is("i -1 of an empty row", x.copy(1, -1, 0, 0, 0), INDEX);
        Due.is("i MAX", x.copy(0, MAX, 1, 0, 0), INDEX);
        Due.is("j MIN", x.copy(0, 0, 1, MIN, 0), INDEX);
    }

    private static void copyOfAll() {
        Due.says("n items of a SHEET come to another one (or the same)");
        ReadPass x = longOne();
        x.sheet(0, 0, 24);
        x.sheet(1, 0, 24);
        x.film(0, 7, 0, 0, 0, 24);
        Due.is("all", x.copy(0, 0, 1, 0, 24), 24);
        Due.is("they are there", x.track(0, 7, 1, 0, 0, 24, 0), 4);
        Due.is("to itself", x.copy(1, 0, 1, 0, 24), 24);
        Due.is("they are there still", x.track(0, 7, 1, 0, 0, 24, 0), 4);
        Due.is("25", x.copy(0, 0, 1, 0, 25), INDEX);
        Due.is("24 from 1", x.copy(0, 1, 1, 0, 24), INDEX);
        Due.is("24 to 1", x.copy(0, 0, 1, 1, 24), INDEX);
    }

    private static void copyAsIfTakenAhead() {
        Due.says("as if all were taken ahead");
        for (int lane = 0; lane < 3; lane++) {
            for (int by = -4; by <= 4; by++) {
                ReadPass x = Due.pass(LINE);
                x.sheet(0, lane, 15);
                x.film(0, 0, 0, lane, 4, 7);
                Due.is("copy by " + by, x.copy(0, 4, 0, 4 + by, 7), 7);
                Due.is("all are there", x.track(0, 0, 0, lane, 4 + by, 7, 0), 1);
            }
        }
    }

    private static void copyToAnother() {
        Due.says("come to another one from j on");
        for (int lane = 0; lane < 3; lane++) {
            ReadPass x = Due.pass(LINE);
            Due.row(x, 0, lane, 4, 5, 6, 7);
            Due.row(x, 1, lane, 1, 2, 3, 1, 1, 1, 7);
            Due.is("copy", x.copy(0, 0, 1, 3, 3), 3);
            Due.is("they are there", x.track(0, 0, 1, lane, 0, 7, 0), 1);
            Due.is("and here, too", x.track(0, 3, 0, lane, 0, 4, 0), 1);
            // what comes to the one later is not in the other
            x.item(0, lane, 0, 1);
            Due.is("there it is as it was", x.track(0, 0, 1, lane, 0, 7, 0), 1);
            x.drop(0);
            Due.is("there it is as it was", x.track(0, 0, 1, lane, 0, 7, 0), 1);
        }
    }
}
