/** Promises 21 to 26: tracks, films, sheets. */
public final class SheetTest {
    private static final int MIN = Integer.MIN_VALUE;
    private static final int MAX = Integer.MAX_VALUE;

    public static void main(String[] args) {
        sheets();
        drops();
        items();
        newRowsHoldNoughts();
        lowestBits();
        copies();
        copiesThatOverlap();
        films();
        filmRefused();
        tracks();
        trackRefused();
        Due.end();
    }

    private static void sheets() {
        ReadPass x = new ReadPass();
        Due.is("sheet(4)", x.sheet(4, 0, 1), -1);
        Due.is("sheet(-1)", x.sheet(-1, 0, 1), -1);
        Due.is("lane 3", x.sheet(0, 3, 1), -1);
        Due.is("lane -1", x.sheet(0, -1, 1), -1);
        Due.is("n 25", x.sheet(0, 0, 25), -1);
        Due.is("n MAX", x.sheet(0, 0, MAX), -1);
        Due.is("n -1", x.sheet(0, 0, -1), -14);
        Due.is("n MIN", x.sheet(0, 0, MIN), -14);
        Due.is("BAD ahead of SIZE", x.sheet(4, 0, -1), -1);
        Due.is("BAD ahead of SIZE", x.sheet(0, 3, -1), -1);
        Due.is("nothing came", x.drop(0), -11);
        Due.is("n 0", x.sheet(0, 0, 0), 0);
        Due.is("n 24", x.sheet(1, 2, 24), 24);
        Due.is("refused", x.sheet(1, 0, -1), -14);
        Due.is("refused", x.sheet(1, 0, 25), -1);
        Due.is("it stays", x.item(1, 2, 23, 5), 1);
        Due.is("another lane", x.sheet(1, 0, 3), 3);
        Due.is("of it", x.item(1, 2, 0, 5), -12);
        Due.is("drop(1)", x.drop(1), 3);
        Due.is("drop(0)", x.drop(0), 0);
    }

    private static void drops() {
        ReadPass x = new ReadPass();
        Due.is("drop(4)", x.drop(4), -1);
        Due.is("drop(-1)", x.drop(-1), -1);
        Due.is("drop(3)", x.drop(3), -11);
        x.sheet(3, 1, 7);
        Due.is("drop(3)", x.drop(3), 7);
        Due.is("drop(3)", x.drop(3), -11);
    }

    private static void items() {
        ReadPass x = new ReadPass();
        Due.is("sheet 4", x.item(4, 0, 0, 0), -1);
        Due.is("sheet -1", x.item(-1, 0, 0, 0), -1);
        Due.is("lane 3", x.item(0, 3, 0, 0), -1);
        Due.is("lane -1", x.item(0, -1, 0, 0), -1);
        Due.is("nothing", x.item(0, 0, -1, 0), -11);
        x.sheet(0, 1, 3);
        Due.is("another lane", x.item(0, 0, -1, 0), -12);
        Due.is("another lane", x.item(0, 2, 9, 0), -12);
        Due.is("i -1", x.item(0, 1, -1, 0), -13);
        Due.is("i 3", x.item(0, 1, 3, 0), -13);
        Due.is("i MAX", x.item(0, 1, MAX, 0), -13);
        Due.is("i MIN", x.item(0, 1, MIN, 0), -13);
        Due.is("i 2", x.item(0, 1, 2, 0), 1);
        Due.is("i 0", x.item(0, 1, 0, Long.MIN_VALUE), 1);
    }

    /** A pass on which one goes from 0 to 7, so that a row that begins with 7 is a track. */
    private static ReadPass toSeven() {
        return Due.pass("07");
    }

    private static void isSeven(ReadPass x, int lane, long v, boolean expected) {
        x.item(0, lane, 0, v);
        Due.is("lane " + lane + " item " + v, x.track(0, 0, 0, lane, 0, 1, 0), expected ? 1 : 0);
    }

    private static void newRowsHoldNoughts() {
        ReadPass x = Due.pass("17,07?");
        x.home(1);
        x.sheet(0, 0, 24);
        for (int i = 0; i < 24; i++) {
            x.item(0, 0, i, 7);
        }
        // from 0 one comes to 7, or stays at 0
        Due.is("sevens", x.track(0, 0, 0, 0, 23, 1, 2), 2);
        for (int again = 0; again < 2; again++) {
            x.sheet(0, again, 24);
            for (int i = 0; i < 24; i++) {
                Due.is("item " + i, x.track(0, 0, 0, again, i, 1, 1), 2);
                x.item(0, again, i, 7);
            }
        }
    }

    private static void lowestBits() {
        ReadPass x = toSeven();
        x.sheet(0, 0, 1);
        Due.is("a new row holds noughts", x.track(0, 0, 0, 0, 0, 1, 0), 0);
        isSeven(x, 0, 7, true);
        isSeven(x, 0, 7 + 256, true);
        isSeven(x, 0, 7 - 256, true);
        isSeven(x, 0, 7 + (1L << 40), true);
        isSeven(x, 0, -7, false);
        isSeven(x, 0, 7 + 128, false);
        x.sheet(0, 1, 1);
        Due.is("a new row holds noughts", x.track(0, 0, 0, 1, 0, 1, 0), 0);
        isSeven(x, 1, 7, true);
        isSeven(x, 1, 7 + 256, false);
        isSeven(x, 1, 7 + 65536, true);
        isSeven(x, 1, 7 - 65536, true);
        isSeven(x, 1, 7 + 32768, false);
        x.sheet(0, 2, 1);
        Due.is("a new row holds noughts", x.track(0, 0, 0, 2, 0, 1, 0), 0);
        isSeven(x, 2, 7, true);
        isSeven(x, 2, 7 + 256, false);
        isSeven(x, 2, 7 + 65536, false);
        isSeven(x, 2, 7 + (1L << 32), false);
        isSeven(x, 2, 7 + Long.MIN_VALUE, false);
    }

    private static void copies() {
        ReadPass x = new ReadPass();
        Due.is("from 4", x.copy(4, 0, 0, 0, 0), -1);
        Due.is("from -1", x.copy(-1, 0, 0, 0, 0), -1);
        Due.is("to 4", x.copy(0, 0, 4, 0, 0), -1);
        Due.is("to -1", x.copy(0, 0, -1, 0, 0), -1);
        x.sheet(0, 0, 5);
        Due.is("to nothing", x.copy(0, 0, 1, 0, -1), -11);
        Due.is("from nothing", x.copy(1, 0, 0, 0, -1), -11);
        x.sheet(1, 1, 5);
        Due.is("unlike lanes", x.copy(0, 0, 1, 0, -1), -12);
        x.sheet(2, 0, 3);
        Due.is("n -1", x.copy(0, 0, 2, 0, -1), -13);
        Due.is("n MIN", x.copy(0, 0, 2, 0, MIN), -13);
        Due.is("n MAX", x.copy(0, 1, 2, 1, MAX), -13);
        Due.is("i -1", x.copy(0, -1, 2, 0, 0), -13);
        Due.is("j -1", x.copy(0, 0, 2, -1, 0), -13);
        Due.is("i MAX", x.copy(0, MAX, 2, 0, 1), -13);
        Due.is("j MAX", x.copy(0, 0, 2, MAX, 1), -13);
        Due.is("i 6, n 0", x.copy(0, 6, 2, 0, 0), -13);
        Due.is("j 4, n 0", x.copy(0, 0, 2, 4, 0), -13);
        Due.is("i 5, j 3, n 0", x.copy(0, 5, 2, 3, 0), 0);
        Due.is("n 4", x.copy(0, 0, 2, 0, 4), -13);
        Due.is("n 3", x.copy(0, 2, 2, 0, 3), 3);
        Due.is("n 3 from 3", x.copy(0, 3, 2, 0, 3), -13);
        Due.is("n 3 to 1", x.copy(0, 0, 2, 1, 3), -13);
        Due.is("back", x.copy(2, 0, 0, 2, 3), 3);
        Due.is("itself", x.copy(2, 0, 2, 0, 3), 3);
    }

    /** A pass with one way from 0 to home by 1, 2, 3 and 4. */
    private static ReadPass line() {
        return Due.pass("01,12,23,34,47");
    }

    private static void row(ReadPass x, int sheet, int lane, long... items) {
        x.sheet(sheet, lane, items.length);
        for (int i = 0; i < items.length; i++) {
            Due.is("item", x.item(sheet, lane, i, items[i]), 1);
        }
    }

    private static void copiesThatOverlap() {
        for (int lane = 0; lane < 3; lane++) {
            ReadPass x = line();
            row(x, 0, lane, 1, 1, 2, 3, 9, 9);
            Due.is("to the left", x.copy(0, 1, 0, 0, 3), 3);
            Due.is("as ahead", x.track(0, 0, 0, lane, 0, 3, 0), 1);
            row(x, 0, lane, 1, 2, 3, 4, 9, 9);
            Due.is("to the right", x.copy(0, 0, 0, 1, 4), 4);
            Due.is("as ahead", x.track(0, 0, 0, lane, 1, 4, 0), 1);
            row(x, 1, lane, 0, 2, 3, 0);
            row(x, 2, lane, 1, 0, 0, 4, 7);
            Due.is("to another", x.copy(1, 1, 2, 1, 2), 2);
            Due.is("so it is there", x.track(0, 0, 2, lane, 0, 5, 0), 1);
        }
    }

    private static void films() {
        for (int lane = 0; lane < 3; lane++) {
            ReadPass x = line();
            x.sheet(0, lane, 24);
            Due.is("film of 3", x.film(0, 0, 0, lane, 2, 3), 3);
            Due.is("these", x.track(0, 0, 0, lane, 2, 3, 0), 1);
            Due.is("no more", x.track(0, 0, 0, lane, 2, 4, 0), 0);
            Due.is("film of 24", x.film(0, 0, 0, lane, 19, 24), 5);
            Due.is("these", x.track(0, 0, 0, lane, 19, 5, 0), 1);
            Due.is("film to the end", x.film(0, 0, 0, lane, 20, 4), 4);
            Due.is("one too many", x.film(0, 0, 0, lane, 20, 5), -13);
            Due.is("it stays", x.track(0, 0, 0, lane, 20, 4, 0), 1);
            Due.is("at home", x.film(0, 7, 0, lane, 24, 24), 0);
            Due.is("at home", x.film(0, 7, 0, lane, 25, 24), -13);
            Due.is("at home", x.film(0, 7, 0, lane, -1, 24), -13);
            x.sheet(0, lane, 0);
            Due.is("an empty row", x.film(0, 7, 0, lane, 0, 1), 0);
            Due.is("an empty row", x.film(0, 0, 0, lane, 0, 1), -13);
        }
    }

    private static void filmRefused() {
        ReadPass x = line();
        x.sheet(0, 1, 24);
        Due.is("kind 4", x.film(4, 0, 0, 1, 0, 1), -1);
        Due.is("kind -1", x.film(-1, 0, 0, 1, 0, 1), -1);
        Due.is("from 8", x.film(0, 8, 0, 1, 0, 1), -1);
        Due.is("from -1", x.film(0, -1, 0, 1, 0, 1), -1);
        Due.is("sheet 4", x.film(0, 0, 4, 1, 0, 1), -1);
        Due.is("sheet -1", x.film(0, 0, -1, 1, 0, 1), -1);
        Due.is("lane 3", x.film(0, 0, 0, 3, 0, 1), -1);
        Due.is("lane -1", x.film(0, 0, 0, -1, 0, 1), -1);
        Due.is("n 0", x.film(0, 0, 0, 1, 0, 0), -1);
        Due.is("n 25", x.film(0, 0, 0, 1, 0, 25), -1);
        Due.is("n MIN", x.film(0, 0, 0, 1, 0, MIN), -1);
        Due.is("nothing", x.film(0, 0, 2, 1, -1, 1), -11);
        Due.is("another lane", x.film(0, 0, 0, 0, -1, 1), -12);
        Due.is("i -1", x.film(0, 0, 0, 1, -1, 1), -13);
        Due.is("i MIN", x.film(0, 0, 0, 1, MIN, 1), -13);
        Due.is("i MAX", x.film(0, 0, 0, 1, MAX, 1), -13);
        Due.is("i 24", x.film(0, 0, 0, 1, 24, 1), -13);
        Due.is("i 23", x.film(0, 0, 0, 1, 23, 1), 1);
    }

    private static void tracks() {
        // from 0 home by c (to 7) or round by 1: ways a 01?, b 17?, c 07?
        ReadPass x = Due.pass("01?,17?,07?");
        row(x, 0, 0, 0, 1, 7);
        Due.is("c is shut", x.track(2, 0, 0, 0, 0, 1, 0), 4);
        Due.is("c is shut", x.track(2, 0, 0, 0, 0, 1, 1), 4);
        Due.is("c is shut", x.track(2, 0, 0, 0, 0, 1, 2), 0);
        Due.is("a is open", x.track(2, 0, 0, 0, 0, 2, 0), 2);
        Due.is("a is open", x.track(2, 0, 0, 0, 0, 2, 1), 4);
        Due.is("a is open", x.track(2, 0, 0, 0, 0, 2, 2), 1);
        Due.is("b is open", x.track(2, 0, 0, 0, 0, 3, 0), 1);
        Due.is("b is open", x.track(2, 0, 0, 0, 0, 3, 1), 4);
        Due.is("b is open", x.track(2, 0, 0, 0, 0, 3, 2), 3);
        x.snow(3);
        Due.is("the snow is not asked", x.track(2, 0, 0, 0, 0, 3, 0), 1);
        Due.is("it stays", x.count(4), 3);
        row(x, 1, 0, 7, 7);
        Due.is("c is open", x.track(2, 0, 1, 0, 0, 1, 0), 4);
        Due.is("c is open", x.track(2, 0, 1, 0, 0, 1, 1), 0);
        Due.is("c is open", x.track(2, 0, 1, 0, 0, 1, 2), 4);
        Due.is("it has ended", x.track(2, 0, 1, 0, 0, 2, 0), 0);
        Due.is("it has ended", x.track(2, 0, 1, 0, 0, 2, 1), -4);
        Due.is("it has ended", x.track(2, 0, 1, 0, 0, 2, 2), -4);
        Due.is("at home none", x.track(2, 7, 1, 0, 0, 1, 0), 0);
        x = line();
        row(x, 0, 2, 1, 2);
        Due.is("no doubtful way", x.track(1, 0, 0, 2, 0, 2, 0), 1);
        Due.is("no doubtful way", x.track(1, 0, 0, 2, 0, 2, 1), 0);
        Due.is("no doubtful way", x.track(1, 0, 0, 2, 0, 2, 2), 0);
        // six doubtful ways from 0, of which one is tried: 64 snows, by halves
        x = Due.pass("07?,12?,23?,34?,45?,56?");
        row(x, 0, 1, 7, 0);
        Due.is("it is open", x.track(0, 0, 0, 1, 0, 1, 0), 32);
        Due.is("it is shut", x.track(0, 0, 0, 1, 1, 1, 0), 32);
        Due.is("it is shut", x.track(0, 0, 0, 1, 1, 1, 1), 1);
        // what a stone tells parts the snows, for him who can read
        x = Due.pass("01,12?,13,37,27;1<0:b");
        row(x, 0, 0, 1, 3);
        Due.is("he reads", x.track(1, 0, 0, 0, 0, 2, 1), 2);
        Due.is("he can't", x.track(2, 0, 0, 0, 0, 2, 1), -4);
    }

    private static void trackRefused() {
        ReadPass x = line();
        x.sheet(0, 1, 24);
        Due.is("kind 4", x.track(4, 0, 0, 1, 0, 1, 0), -1);
        Due.is("kind -1", x.track(-1, 0, 0, 1, 0, 1, 0), -1);
        Due.is("from 8", x.track(0, 8, 0, 1, 0, 1, 0), -1);
        Due.is("from -1", x.track(0, -1, 0, 1, 0, 1, 0), -1);
        Due.is("sheet 4", x.track(0, 0, 4, 1, 0, 1, 0), -1);
        Due.is("sheet -1", x.track(0, 0, -1, 1, 0, 1, 0), -1);
        Due.is("lane 3", x.track(0, 0, 0, 3, 0, 1, 0), -1);
        Due.is("lane -1", x.track(0, 0, 0, -1, 0, 1, 0), -1);
        Due.is("n 0", x.track(0, 0, 0, 1, 0, 0, 0), -1);
        Due.is("n 25", x.track(0, 0, 0, 1, 0, 25, 0), -1);
        Due.is("what 3", x.track(0, 0, 0, 1, 0, 1, 3), -1);
        Due.is("what -1", x.track(0, 0, 0, 1, 0, 1, -1), -1);
        Due.is("nothing", x.track(0, 0, 2, 1, -1, 1, 0), -11);
        Due.is("another lane", x.track(0, 0, 0, 2, -1, 1, 0), -12);
        Due.is("i -1", x.track(0, 0, 0, 1, -1, 1, 1), -13);
        Due.is("i MIN", x.track(0, 0, 0, 1, MIN, 24, 1), -13);
        Due.is("i MAX", x.track(0, 0, 0, 1, MAX, 24, 1), -13);
        Due.is("i 24", x.track(0, 0, 0, 1, 24, 1, 1), -13);
        Due.is("i 1, n 24", x.track(0, 0, 0, 1, 1, 24, 1), -13);
        Due.is("i 0, n 24", x.track(0, 0, 0, 1, 0, 24, 1), -4);
        Due.is("i 23, n 1", x.track(0, 0, 0, 1, 23, 1, 0), 0);
    }
}
