/** Promises 16 to 20: the way that is best at worst, stones to be struck, images. */
public final class BestTest {
    public static void main(String[] args) {
        worst();
        worstIsOfNoSnow();
        next();
        struck();
        struckSets();
        struckChangesNothing();
        image();
        imageKeepsNoTapeNoSheet();
        imageIsTakenAnew();
        Due.end();
    }

    private static void worst() {
        ReadPass x = Due.pass("07?,01?,17,02,23,34,46,67");
        int[] due = {5, 1, 4, 3, 2, -4, 1, 0};
        for (int p = 0; p < 8; p++) {
            Due.is("worst(" + p + ")", x.worst(p), due[p]);
        }
        Due.is("worst(8)", x.worst(8), -1);
        Due.is("worst(-1)", x.worst(-1), -1);
        Due.is("worst(MIN)", x.worst(Integer.MIN_VALUE), -1);
        x.home(5);
        for (int p = 0; p < 8; p++) {
            Due.is("worst(" + p + ")", x.worst(p), p == 5 ? 0 : -4);
        }
        x.home(1);
        Due.is("worst(0), home 1", x.worst(0), 6);
        x.way(1, 0, false);
        Due.is("worst(0), home 1", x.worst(0), 6);
        x.way(1, 2, false);
        Due.is("worst(0), home 1", x.worst(0), 2);
        x = Due.pass("01,12,23,34,45,56,67");
        Due.is("the longest", x.worst(0), 7);
        x.snow(0);
        Due.is("a way that only a stone tells", Due.pass("01,17?;1<0:b").worst(0), -4);
    }

    private static void worstIsOfNoSnow() {
        ReadPass x = Due.pass("07?,01,17?,12,27");
        for (int snow = 0; snow < 8; snow++) {
            x.snow(snow & 5);
            Due.is("worst(0)", x.worst(0), 3);
            Due.is("next(0)", x.next(0), 1);
            Due.is("worst(1)", x.worst(1), 2);
            Due.is("next(1)", x.next(1), 2);
        }
    }

    private static void next() {
        ReadPass x = Due.pass("05,03,37,57,02?,27,06,67,24");
        Due.is("the least of like ones", x.next(0), 3);
        Due.is("next(4)", x.next(4), 2);
        Due.is("next(3)", x.next(3), 7);
        Due.is("at home", x.next(7), -4);
        Due.is("not joined", x.next(1), -4);
        Due.is("next(8)", x.next(8), -1);
        Due.is("next(-1)", x.next(-1), -1);
        Due.is("next(MAX)", x.next(Integer.MAX_VALUE), -1);
        x.home(0);
        Due.is("the least of like ones home", x.next(7), 3);
        Due.is("at home", x.next(0), -4);
        x = Due.pass("01?,17");
        Due.is("by a doubtful way alone", x.next(0), -4);
        Due.is("next(1)", x.next(1), 7);
    }

    private static void struck() {
        ReadPass x = new ReadPass();
        int[] wrong = {-1, Integer.MIN_VALUE, Integer.MAX_VALUE};
        for (int w : wrong) {
            Due.is("struck kind", x.struck(w, 0, 1), -1);
            Due.is("struck from", x.struck(0, w, 1), -1);
            Due.is("struck home", x.struck(0, 0, w), -1);
        }
        Due.is("struck kind 4", x.struck(4, 0, 1), -1);
        Due.is("struck from 8", x.struck(0, 8, 1), -1);
        Due.is("struck home 2", x.struck(0, 0, 2), -1);
        Due.is("lost", x.struck(0, 0, 1), -4);
        Due.is("lost", x.struck(0, 0, 0), 0);
        Due.is("at home", x.struck(0, 7, 1), 0);
        Due.is("at home", x.struck(0, 7, 0), -4);
    }

    private static void struckSets() {
        ReadPass x = Due.pass("15,01,03;0<1:a,1<5:a");
        x.home(5);
        Due.is("two stones", x.struck(0, 3, 1), 3);
        Due.is("he is lost", x.struck(0, 3, 0), 0);
        Due.is("a doubter", x.struck(1, 3, 1), 0);
        x = Due.pass("03,45?,05?,34;0<5:d,3<4:d,4<5:b");
        x.home(5);
        x.snow(4);
        Due.is("three stones", x.struck(0, 3, 1), 25);
        x = Due.pass("04,03?,14?,12?,02?,13?;0<2:a,1<3:a,2<0:b,3<0:b");
        x.home(4);
        x.snow(20);
        Due.is("four stones", x.struck(0, 1, 1), 15);
        x = Due.pass("03?,12,01,13;0<1:d,1<0:d");
        x.home(3);
        x.snow(1);
        Due.is("a lie that helps", x.struck(0, 2, 0), 1);
        x = Due.pass("23,13?,02,01;0<2:b");
        x.home(3);
        x.snow(2);
        Due.is("round is not home", x.struck(0, 0, 0), 0);
        Due.is("round no more", x.struck(0, 0, 1), 1);
        Due.is("a carter", x.struck(3, 0, 0), -4);
        // without 0 and 1 he comes home too, but that are two stones
        x = Due.pass("01,13?,02?,12?,03?;0<3:a,1<2:b,2<1:e");
        x.home(3);
        x.snow(16);
        Due.is("fewest, not least", x.struck(0, 2, 1), 4);
    }

    private static void struckChangesNothing() {
        ReadPass x = Due.pass("15,01,03;0<1:a,1<5:a");
        x.home(5);
        x.struck(0, 3, 1);
        Due.is("stones", x.count(2), 2);
        Due.is("of(0, 0)", x.of(0, 0), 1);
        Due.is("of(1, 0)", x.of(1, 0), 5);
        Due.is("lost still", x.walk(0, 3, 1), 1);
    }

    private static void image() {
        ReadPass x = Due.pass("01?,12?,27;1<0:b");
        Due.is("restore of none", x.restore(), -4);
        x.snow(1);
        x.home(2);
        Due.is("image", x.image(), 1);
        for (int k = 0; k < 2; k++) {
            x.snow(2);
            x.home(6);
            x.way(3, 4, true);
            x.stone(1, 2, 0);
            x.stone(0, 1, 0);
            if (k == 1) {
                Due.typed(x, "67");
                x.pass();
            }
            Due.is("restore", x.restore(), 1);
            Due.is("ways", x.count(0), 3);
            Due.is("doubtful", x.count(1), 3);
            Due.is("stones", x.count(2), 1);
            Due.is("home", x.count(3), 2);
            Due.is("snow", x.count(4), 1);
            Due.is("of(1, 0)", x.of(1, 0), 0);
            Due.is("of(1, 1)", x.of(1, 1), 1);
            Due.is("of(0, 0)", x.of(0, 0), -4);
            Due.is("told(2, 1)", x.told(2, 1), 7);
            Due.is("told(3, 0)", x.told(3, 0), -1);
            Due.is("read(1, 2)", x.read(1, 2), 0);
            Due.is("read(3, 4)", x.read(3, 4), -2);
            Due.is("worst(7)", x.worst(7), 1);
            Due.is("worst(1)", x.worst(1), -4);
        }
        Due.is("a way again", x.way(3, 4, false), 3);
    }

    private static void imageKeepsNoTapeNoSheet() {
        ReadPass x = new ReadPass();
        x.type(0x3031, 2);
        x.sheet(0, 1, 5);
        x.image();
        x.type(0x3f, 1);
        x.sheet(1, 2, 6);
        x.drop(0);
        Due.is("restore", x.restore(), 1);
        Due.is("sheet 0", x.drop(0), -11);
        Due.is("sheet 1", x.drop(1), 6);
        Due.is("the tape", x.type(32, 1), 4);
        Due.is("pass", x.pass(), 1);
        Due.is("doubtful", x.count(1), 1);
        Due.is("restore", x.restore(), 1);
        Due.is("ways", x.count(0), 0);
    }

    private static void imageIsTakenAnew() {
        ReadPass x = new ReadPass();
        x.image();
        x.way(0, 1, false);
        x.image();
        x.way(1, 2, false);
        x.restore();
        Due.is("ways", x.count(0), 1);
        x.home(3);
        x.restore();
        Due.is("home", x.count(3), 7);
    }
}
