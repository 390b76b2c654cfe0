import java.util.function.Supplier;
import java.util.function.ToLongFunction;

/** What is refused changes nothing, but as told; of several refusals the first that a call names. */
public final class RefusedEdgeTest {
    private static final int BAD = -1, NOT = -2, FULL = -3, NONE = -4;
    private static final int NULL = -11, CAST = -12, INDEX = -13, SIZE = -14;
    private static final int MAX = Integer.MAX_VALUE;

    public static void main(String[] args) {
        theViewSeesAll();
        Due.says("What is refused changes nothing");
        ways();
        fullWays();
        stones();
        homeAndSnow();
        types();
        journeys();
        best();
        tracks();
        films();
        sheets();
        items();
        copies();
        restoreOfNone();
        faultEmptiesTheTape();
        askedChangesNothing();
        imageChangesTheImageAlone();
        theLastCallStands();
        Due.end();
    }

    private static ReadPass full() {
        ReadPass x = View.rich();
        x.way(3, 5, false);
        return x;
    }

    private static ReadPass fullTape() {
        return View.rich(" ".repeat(90) + "56?,45");
    }

    private static void refused(Supplier<ReadPass> made, String call, int want, ToLongFunction<ReadPass> c) {
        ReadPass x = made.get();
        Due.is(call, c.applyAsLong(x), want);
        Due.same(call + " leaves", View.of(x), View.of(made.get()));
    }

    private static void refused(String call, int want, ToLongFunction<ReadPass> c) {
        refused(View::rich, call, want, c);
    }

    private static void asked(String call, long want, ToLongFunction<ReadPass> c) {
        ReadPass x = View.rich();
        Due.is(call, c.applyAsLong(x), want);
        Due.same(call + " leaves", View.of(x), View.of(View.rich()));
    }

    /** The view must be other after any change, or this test would tell nothing. */
    private static void theViewSeesAll() {
        Due.says("the view by which it is seen that nothing changes");
        String before = View.of(View.rich());
        Due.same("view again", View.of(View.rich()), before);
        seen(before, "way", x -> x.way(3, 5, false));
        seen(before, "stone", x -> x.stone(0, 1, 0));
        seen(before, "stone in place", x -> x.stone(1, 0, 2));
        seen(before, "strike", x -> x.strike(1));
        seen(before, "home", x -> x.home(4));
        seen(before, "snow", x -> x.snow(19));
        seen(before, "type", x -> x.type(32, 1));
        seen(before, "pass", x -> x.pass());
        seen(before, "image", x -> x.image());
        seen(before, "restore", x -> x.restore());
        seen(before, "film", x -> x.film(2, 0, 1, 1, 4, 1));
        seen(before, "sheet of 24", x -> x.sheet(3, 0, 24));
        seen(before, "sheet of 0", x -> x.sheet(3, 0, 0));
        seen(before, "sheet of 5", x -> x.sheet(1, 1, 5));
        seen(before, "drop of 0", x -> x.drop(2));
        for (int i = 0; i < 24; i++) {
            int at = i;
            seen(before, "item " + i, x -> x.item(0, 0, at, 9));
        }
        seen(before, "copy", x -> x.copy(1, 0, 1, 3, 2));
    }

    private static void seen(String before, String call, ToLongFunction<ReadPass> c) {
        ReadPass x = View.rich();
        c.applyAsLong(x);
        Due.is(call + " is seen", View.of(x).equals(before) ? 0 : 1, 1);
    }

    private static void ways() {
        refused("way(-1, 0)", BAD, x -> x.way(-1, 0, false));
        refused("way(0, 8)", BAD, x -> x.way(0, 8, true));
        refused("way(5, 5)", BAD, x -> x.way(5, 5, false));
        refused("way(5, 5) of a seventh", BAD, x -> x.way(5, 5, true));
        refused("way(0, 1)", NOT, x -> x.way(0, 1, false));
        refused("way(7, 6), doubtful: NOT ahead of FULL", NOT, x -> x.way(7, 6, true));
        refused("way(0, 3), a seventh doubtful", FULL, x -> x.way(0, 3, true));
    }

    private static void fullWays() {
        refused(RefusedEdgeTest::full, "way(0, 3), a thirteenth", FULL, x -> x.way(0, 3, false));
        refused(RefusedEdgeTest::full, "way(0, 3), both", FULL, x -> x.way(0, 3, true));
        refused(RefusedEdgeTest::full, "way(3, 5): NOT ahead of FULL", NOT, x -> x.way(3, 5, false));
        refused(RefusedEdgeTest::full, "way(2, 1): NOT ahead of FULL", NOT, x -> x.way(2, 1, true));
        refused(RefusedEdgeTest::full, "way(3, 3): BAD ahead of FULL", BAD, x -> x.way(3, 3, false));
        refused(RefusedEdgeTest::full, "way(3, 8): BAD ahead of FULL", BAD, x -> x.way(3, 8, true));
    }

    private static void stones() {
        refused("stone(8, 0, 0)", BAD, x -> x.stone(8, 0, 0));
        refused("stone(1, -1, 0)", BAD, x -> x.stone(1, -1, 0));
        refused("stone(1, 0, 11)", BAD, x -> x.stone(1, 0, 11));
        refused("stone(1, 0, -1)", BAD, x -> x.stone(1, 0, -1));
        refused("stone(1, 4, 11): BAD ahead of NOT", BAD, x -> x.stone(1, 4, 11));
        refused("stone(1, 4, 0)", NOT, x -> x.stone(1, 4, 0));
        refused("stone(1, 1, 0)", NOT, x -> x.stone(1, 1, 0));
        refused("strike(8)", BAD, x -> x.strike(8));
        refused("strike(33)", BAD, x -> x.strike(33));
        refused("strike(0)", NOT, x -> x.strike(0));
        refused("strike(7)", NOT, x -> x.strike(7));
        refused("of(0, 2): BAD ahead of NONE", BAD, x -> x.of(0, 2));
        refused("of(1, 2)", BAD, x -> x.of(1, 2));
        refused("of(0, 0)", NONE, x -> x.of(0, 0));
        refused("told(11, 0)", BAD, x -> x.told(11, 0));
        refused("told(0, 4)", BAD, x -> x.told(0, 4));
        refused("count(5)", BAD, x -> x.count(5));
    }

    private static void homeAndSnow() {
        refused("home(8)", BAD, x -> x.home(8));
        refused("home(-1)", BAD, x -> x.home(-1));
        refused("snow of a clear way", BAD, x -> x.snow(64));
        refused("snow of a clear way among doubtful ones", BAD, x -> x.snow(1 | 2 | 64));
        refused("snow of no way", BAD, x -> x.snow(1 << 11));
        refused("snow of no way among doubtful ones", BAD, x -> x.snow(63 | 1 << 12));
        refused("snow of the highest bit", BAD, x -> x.snow(Integer.MIN_VALUE));
        refused("snow(-1)", BAD, x -> x.snow(-1));
    }

    private static void types() {
        refused("type of 0 bytes", BAD, x -> x.type(0x31, 0));
        refused("type of 9 bytes", BAD, x -> x.type(0x3131313131313131L, 9));
        refused("type, the last byte bad", BAD, x -> x.type(0x3131311fL, 4));
        refused("type, the first byte bad", BAD, x -> x.type(0x7f313131L, 4));
        refused(RefusedEdgeTest::fullTape, "five bytes where four have room", FULL, x -> x.type(0x3132333435L, 5));
        refused(RefusedEdgeTest::fullTape, "BAD ahead of FULL", BAD, x -> x.type(0x1f32333435L, 5));
        refused(RefusedEdgeTest::fullTape, "BAD n ahead of FULL", BAD, x -> x.type(0x3132333435L, 9));
    }

    private static void journeys() {
        refused("read(8, 0)", BAD, x -> x.read(8, 0));
        refused("read(0, -1), no stone: BAD ahead of NONE", BAD, x -> x.read(0, -1));
        refused("read(0, 6), no stone: NOT ahead of NONE", NOT, x -> x.read(0, 6));
        refused("read(0, 0), no stone: NOT ahead of NONE", NOT, x -> x.read(0, 0));
        refused("read(1, 4)", NOT, x -> x.read(1, 4));
        refused("read(0, 1)", NONE, x -> x.read(0, 1));
        refused("walk(4, 0, 0)", BAD, x -> x.walk(4, 0, 0));
        refused("walk(0, 8, 0)", BAD, x -> x.walk(0, 8, 0));
        refused("walk(0, 0, 3)", BAD, x -> x.walk(0, 0, 3));
        refused("at(0, 5, 100): BAD ahead of NONE", BAD, x -> x.at(0, 5, 100));
        refused("at(4, 5, 1): BAD ahead of NONE", BAD, x -> x.at(4, 5, 1));
        refused("at(0, 5, -1)", BAD, x -> x.at(0, 5, -1));
        refused("at(0, 5, 1)", NONE, x -> x.at(0, 5, 1));
        refused("shut(-1, 0)", BAD, x -> x.shut(-1, 0));
    }

    private static void best() {
        refused("worst(8)", BAD, x -> x.worst(8));
        refused("next(-1)", BAD, x -> x.next(-1));
        refused("worst(4)", -4, x -> x.worst(4));
        refused("next(5), at home", NONE, x -> x.next(5));
        refused("struck(0, 5, 2): BAD ahead of NONE", BAD, x -> x.struck(0, 5, 2));
        refused("struck(4, 5, 0): BAD ahead of NONE", BAD, x -> x.struck(4, 5, 0));
        refused("struck(0, 5, 0), at home", NONE, x -> x.struck(0, 5, 0));
    }

    private static void tracks() {
        refused("nothing, n 0: BAD ahead of NULL", BAD, x -> x.track(0, 0, 3, 0, -1, 0, 0));
        refused("nothing, n 25: BAD ahead of NULL", BAD, x -> x.track(0, 0, 3, 0, -1, 25, 0));
        refused("nothing, what 3: BAD ahead of NULL", BAD, x -> x.track(0, 0, 3, 0, -1, 1, 3));
        refused("kind 4: BAD ahead of CAST", BAD, x -> x.track(4, 0, 0, 1, -1, 1, 0));
        refused("from 8: BAD ahead of CAST", BAD, x -> x.track(0, 8, 0, 1, -1, 1, 0));
        refused("lane 3: BAD ahead of CAST", BAD, x -> x.track(0, 0, 0, 3, -1, 1, 0));
        refused("what -1: BAD ahead of INDEX", BAD, x -> x.track(0, 0, 0, 0, -1, 1, -1));
        refused("nothing, i -1: NULL ahead of INDEX", NULL, x -> x.track(0, 0, 3, 0, -1, 1, 0));
        refused("another lane, i 99: CAST ahead of INDEX", CAST, x -> x.track(0, 0, 0, 1, 99, 1, 0));
        refused("i -1: INDEX ahead of NONE", INDEX, x -> x.track(0, 5, 0, 0, -1, 1, 1));
        refused("i 24: INDEX ahead of NONE", INDEX, x -> x.track(0, 5, 0, 0, 24, 1, 2));
        refused("no such snow", NONE, x -> x.track(0, 5, 0, 0, 0, 24, 1));
        refused("no such snow", NONE, x -> x.track(0, 5, 0, 0, 0, 24, 2));
    }

    private static void films() {
        refused("nothing, n 0: BAD ahead of NULL", BAD, x -> x.film(0, 0, 3, 0, -1, 0));
        refused("nothing, n 25: BAD ahead of NULL", BAD, x -> x.film(0, 0, 3, 0, -1, 25));
        refused("kind -1: BAD ahead of CAST", BAD, x -> x.film(-1, 0, 0, 1, -1, 1));
        refused("from -1: BAD ahead of CAST", BAD, x -> x.film(0, -1, 0, 1, -1, 1));
        refused("lane -1: BAD ahead of CAST", BAD, x -> x.film(0, 0, 0, -1, -1, 1));
        refused("nothing, i -1: NULL ahead of INDEX", NULL, x -> x.film(0, 0, 3, 0, -1, 1));
        refused("another lane, i 99: CAST ahead of INDEX", CAST, x -> x.film(0, 0, 0, 2, 99, 1));
        refused("an empty row", INDEX, x -> x.film(2, 6, 2, 2, 0, 1));
        refused("two places where one has room", INDEX, x -> x.film(2, 0, 1, 1, 4, 2));
        refused("three places where two have room", INDEX, x -> x.film(2, 0, 0, 0, 22, 3));
        refused("i -1", INDEX, x -> x.film(2, 0, 1, 1, -1, 2));
        refused("at home, i -1", INDEX, x -> x.film(2, 5, 1, 1, -1, 2));
        refused("at home, i 6", INDEX, x -> x.film(2, 5, 1, 1, 6, 2));
    }

    private static void sheets() {
        refused("sheet(4, 0, -1): BAD ahead of SIZE", BAD, x -> x.sheet(4, 0, -1));
        refused("sheet(0, 3, -1): BAD ahead of SIZE", BAD, x -> x.sheet(0, 3, -1));
        refused("sheet(0, -1, 5)", BAD, x -> x.sheet(0, -1, 5));
        refused("sheet(0, 0, 25)", BAD, x -> x.sheet(0, 0, 25));
        refused("sheet(3, 0, 25)", BAD, x -> x.sheet(3, 0, 25));
        refused("sheet(0, 0, -1)", SIZE, x -> x.sheet(0, 0, -1));
        refused("sheet(1, 2, MIN)", SIZE, x -> x.sheet(1, 2, Integer.MIN_VALUE));
        refused("sheet(3, 1, -1)", SIZE, x -> x.sheet(3, 1, -1));
        refused("drop(4)", BAD, x -> x.drop(4));
        refused("drop(3)", NULL, x -> x.drop(3));
    }

    private static void items() {
        refused("nothing, lane 3: BAD ahead of NULL", BAD, x -> x.item(3, 3, -1, 9));
        refused("lane -1: BAD ahead of CAST", BAD, x -> x.item(0, -1, 99, 9));
        refused("nothing, i -1: NULL ahead of INDEX", NULL, x -> x.item(3, 0, -1, 9));
        refused("another lane, i 99: CAST ahead of INDEX", CAST, x -> x.item(0, 1, 99, 9));
        refused("another lane, i 0", CAST, x -> x.item(1, 0, 0, 9));
        refused("i -1", INDEX, x -> x.item(1, 1, -1, 9));
        refused("i 5", INDEX, x -> x.item(1, 1, 5, 9));
        refused("i 24", INDEX, x -> x.item(0, 0, 24, 9));
        refused("i 0 of an empty row", INDEX, x -> x.item(2, 2, 0, 9));
    }

    private static void copies() {
        refused("from 4 to nothing: BAD ahead of NULL", BAD, x -> x.copy(4, 0, 3, 0, -1));
        refused("from nothing to 4: BAD ahead of NULL", BAD, x -> x.copy(3, 0, 4, 0, -1));
        refused("from 1 to 4: BAD ahead of INDEX", BAD, x -> x.copy(1, 0, 4, 0, -1));
        refused("from nothing: NULL ahead of INDEX", NULL, x -> x.copy(3, 0, 0, 0, -1));
        refused("to nothing: NULL ahead of INDEX", NULL, x -> x.copy(0, -1, 3, 0, 1));
        refused("from nothing to itself", NULL, x -> x.copy(3, 0, 3, 0, 0));
        refused("of unlike lanes: CAST ahead of INDEX", CAST, x -> x.copy(0, 0, 1, 0, -1));
        refused("of unlike lanes", CAST, x -> x.copy(1, 0, 0, 0, 3));
        refused("of unlike lanes, n 0", CAST, x -> x.copy(1, 0, 2, 0, 0));
        refused("n -1", INDEX, x -> x.copy(0, 1, 0, 1, -1));
        refused("from beyond the end", INDEX, x -> x.copy(1, 3, 1, 0, 3));
        refused("to beyond the end", INDEX, x -> x.copy(1, 0, 1, 3, 3));
        refused("i MAX", INDEX, x -> x.copy(1, MAX, 1, 0, 1));
        refused("j MAX", INDEX, x -> x.copy(1, 0, 1, MAX, 1));
        refused("n MAX", INDEX, x -> x.copy(1, 1, 1, 1, MAX));
    }

    private static void restoreOfNone() {
        ReadPass x = Due.pass("01?,17;1<0:a", 3, 1);
        Due.is("restore", x.restore(), NONE);
        ReadPass y = Due.pass("01?,17;1<0:a", 3, 1);
        Due.same("restore leaves", View.of(x), View.of(y));
    }

    private static void faultEmptiesTheTape() {
        Due.says("THE TAPE, which is empty then (by a FAULT, too) .. A FAULT (all else stays)");
        String[] faulty = {"8", "01,12,23;", "01,12;1<0:a,2<1:b,2<1:a", "67,45?,01,10", "07,70"};
        int[] due = {-20, -29, -38, -31, -24};
        for (int k = 0; k < faulty.length; k++) {
            ReadPass x = View.rich(faulty[k]);
            Due.is("pass '" + faulty[k] + "'", x.pass(), due[k]);
            Due.same("'" + faulty[k] + "' leaves", View.of(x), View.of(View.rich("")));
        }
    }

    private static void askedChangesNothing() {
        Due.says("what is asked alone changes nothing");
        asked("told", 1, x -> x.told(1, 3));
        asked("of", 10, x -> x.of(4, 1));
        asked("count", 18, x -> x.count(4));
        asked("read", 0, x -> x.read(1, 0));
        asked("walk", 0, x -> x.walk(0, 6, 1));
        asked("at", 5, x -> x.at(2, 6, 1));
        asked("shut", 16, x -> x.shut(2, 4));
        asked("worst", 0, x -> x.worst(5));
        asked("next", -4, x -> x.next(0));
        asked("struck", 0, x -> x.struck(0, 0, 1));
        asked("track", 32, x -> x.track(2, 6, 0, 0, 4, 1, 0));
        asked("copy of none", 0, x -> x.copy(1, 5, 1, 0, 0));
        asked("film of none", 0, x -> x.film(1, 5, 1, 1, 0, 24));
        asked("home as it is", 5, x -> x.home(5));
        asked("snow as it is", 18, x -> x.snow(18));
    }

    private static void imageChangesTheImageAlone() {
        Due.says("All but SHEETS, THE TAPE is kept as an IMAGE");
        ReadPass x = View.rich();
        Due.is("image", x.image(), 1);
        x.snow(0);
        x.home(1);
        x.strike(1);
        x.way(3, 5, false);
        Due.is("restore", x.restore(), 1);
        ReadPass y = View.rich();
        y.image();
        Due.same("image and restore leave", View.of(x), View.of(y));
    }

    private static void theLastCallStands() {
        Due.says("An object is used for at most 512 calls after it has been made");
        ReadPass x = new ReadPass();
        for (int k = 0; k < 511; k++) {
            Due.is("home", x.home((k + 1) & 7), k == 0 ? 7 : k & 7);
        }
        Due.is("call 512", x.count(3), 511 & 7);
        x = new ReadPass();
        for (int k = 0; k < 500; k++) {
            Due.is("a new row", x.sheet(k & 3, k % 3, k % 25), k % 25);
        }
        Due.is("the last row", x.drop(499 & 3), 499 % 25);
        x = new ReadPass();
        for (int k = 0; k < 170; k++) {
            Due.is("type", x.type(0x30313F, 3), 3);
            Due.is("pass", x.pass(), 1);
            Due.is("image", x.image(), 1);
        }
        Due.is("snow", x.snow(1), 0);
        Due.is("call 512", x.restore(), 1);
    }
}
