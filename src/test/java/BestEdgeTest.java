/** The edges that promises 16 to 20 and their terms name: what is best at worst, stones to be struck, images. */
public final class BestEdgeTest {
    private static final int NONE = -4;

    public static void main(String[] args) {
        numbersOfCalls();
        noughtAtHome();
        noneIfThereIsSuchASnow();
        whateverSnowThereIs();
        aShutWayCostsAStep();
        readingIsNoHelpAtWorst();
        fromOneStepToSeven();
        nextIsTheLeastOfLikeOnes();
        nextNoneAtHome();
        struckByNoStone();
        struckNoneByNone();
        struckAllButOne();
        fewestNotLeast();
        theLeastSetOfLikeOnes();
        orThatHeDoesNot();
        roundIsNotHome();
        struckEachPlace();
        allElseAsItIs();
        restoreOfNone();
        imageOfANewObject();
        imageKeepsAllButSheetsAndTape();
        restoreAgainAndAgain();
        theLastImage();
        Due.end();
    }

    private static void numbersOfCalls() {
        Due.says("BAD -1 (a number is not as told): PLACES 0 .. 7, KINDS 0 .. 3, HOME (1) or not (0)");
        ReadPass y = Due.pass("01,12?,27,17;1<2:b", 7, 2);
        Due.numbers("worst(n)", y, 0, 7, (x, n) -> x.worst(n));
        Due.numbers("next(n)", y, 0, 7, (x, n) -> x.next(n));
        Due.numbers("struck(n, 0, 1)", y, 0, 3, (x, n) -> x.struck(n, 0, 1));
        Due.numbers("struck(0, n, 0)", y, 0, 7, (x, n) -> x.struck(0, n, 0));
        Due.numbers("struck(0, 0, n)", y, 0, 1, (x, n) -> x.struck(0, 0, n));
        Due.numbers("struck(3, 7, n) at home", y, 0, 1, (x, n) -> x.struck(3, 7, n));
        Due.numbers("worst(n) of no ways", new ReadPass(), 0, 7, (x, n) -> x.worst(n));
        Due.numbers("next(n) of no ways", new ReadPass(), 0, 7, (x, n) -> x.next(n));
    }

    private static void noughtAtHome() {
        Due.says("WORST from a PLACE (0 at HOME)");
        ReadPass x = new ReadPass();
        ReadPass y = Due.pass("01?,12?,23?,34?,45?,56?,67", 7, 63);
        for (int home = 0; home < 8; home++) {
            x.home(home);
            y.home(home);
            Due.is("of no ways", x.worst(home), 0);
            Due.is("of doubtful ways", y.worst(home), 0);
        }
    }

    private static void noneIfThereIsSuchASnow() {
        Due.says("none, if there is SNOW by which HOME can't be reached so");
        ReadPass x = Due.pass("07?", 7, 0);
        Due.is("worst, one doubtful way", x.worst(0), NONE);
        Due.is("next, one doubtful way", x.next(0), NONE);
        Due.is("not joined", x.worst(1), NONE);
        Due.is("not joined", x.next(1), NONE);
        // one snow shuts both ways round
        x = Due.pass("01?,17,02?,27,06?,67", 7, 0);
        Due.is("worst, three ways round", x.worst(0), NONE);
        Due.is("next, three ways round", x.next(0), NONE);
        Due.is("worst behind the doubt", x.worst(1), 1);
        x.way(0, 3, false);
        Due.is("a clear way that leads nowhere", x.worst(0), NONE);
        Due.is("a clear way that leads nowhere", x.next(0), NONE);
        x.way(3, 7, false);
        Due.is("a clear way round", x.worst(0), 2);
        Due.is("a clear way round", x.next(0), 3);
        Due.is("of no ways", new ReadPass().worst(0), NONE);
        Due.is("of no ways", new ReadPass().next(0), NONE);
    }

    private static void whateverSnowThereIs() {
        Due.says("so that the STEPS till HOME are fewest, whatever SNOW there is");
        ReadPass x = Due.pass("07?,01,12?,17?,13,32,27");
        int[] due = {4, 3, 1, 2, NONE, NONE, NONE, 0};
        int[] first = {1, 3, 7, 2, NONE, NONE, NONE, NONE};
        for (int set = 0; set < 16; set++) {
            int snow = set & 1 | set & 4 | (set & 2) << 2;
            x.snow(snow & 13);
            for (int p = 0; p < 8; p++) {
                Due.is("worst(" + p + ")", x.worst(p), due[p]);
                Due.is("next(" + p + ")", x.next(p), first[p]);
            }
        }
    }

    private static void aShutWayCostsAStep() {
        Due.says("a WAY that is SHUT costs a STEP");
        // by the doubtful way one step if it is open, else one more than by the clear ways
        ReadPass x = Due.pass("07?,01,17", 7, 0);
        Due.is("worst", x.worst(0), 2);
        Due.is("next", x.next(0), 1);
        x = Due.pass("01?,17,02,23,34,45,56,67", 7, 0);
        Due.is("worst", x.worst(0), 6);
        Due.is("next", x.next(0), 2);
    }

    private static void readingIsNoHelpAtWorst() {
        Due.says("nothing of SNOW but what is found out (by reading as one comes to a PLACE)");
        // the stone of 1 tells of the short way; told that it is shut one has come for nothing
        ReadPass x = Due.pass("01,17?,02,23,34,47;1<0:b", 7, 0);
        Due.is("worst", x.worst(0), 4);
        Due.is("next", x.next(0), 2);
        Due.is("worst where it stands", x.worst(1), 5);
        Due.is("next where it stands", x.next(1), 0);
        x = Due.pass("01,17?;1<0:b", 7, 0);
        Due.is("it tells nothing that leads home", x.worst(0), NONE);
    }

    private static void fromOneStepToSeven() {
        Due.says("WORST from a PLACE");
        ReadPass x = Due.pass("01,12,23,34,45,56,67");
        for (int home = 0; home < 8; home++) {
            x.home(home);
            for (int p = 0; p < 8; p++) {
                Due.is("worst(" + p + ")", x.worst(p), Math.abs(p - home));
                Due.is("next(" + p + ")", x.next(p), p == home ? NONE : p < home ? p + 1 : p - 1);
            }
        }
    }

    private static void nextIsTheLeastOfLikeOnes() {
        Due.says("NEXT: the PLACE to which one goes first, of like ones the least");
        Due.is("of six", Due.pass("06,05,04,03,02,01,67,57,47,37,27,17").next(0), 1);
        Due.is("of two, the later told", Due.pass("06,05,67,57").next(0), 5);
        Due.is("of two, each below", Due.pass("64,63,40,30", 0, 0).next(6), 3);
        Due.is("fewer steps ahead of the least", Due.pass("01,12,27,06,67").next(0), 6);
        Due.is("home itself", Due.pass("01,17,07").next(0), 7);
        Due.is("a doubtful one is not like", Due.pass("01?,17,02,27").next(0), 2);
        Due.is("0 is a place", Due.pass("30,07,35,57").next(3), 0);
    }

    private static void nextNoneAtHome() {
        Due.says("NEXT. NONE: also at HOME.");
        ReadPass x = Due.pass("01,12,20,07");
        for (int home = 0; home < 8; home++) {
            x.home(home);
            Due.is("next(" + home + ")", x.next(home), NONE);
        }
    }

    private static void struckByNoStone() {
        Due.says("STRUCK: the fewest STONES that must be away; PLACES, as a set");
        ReadPass x = Due.pass("01,17;1<0:b");
        for (int kind = 0; kind < 4; kind++) {
            Due.is("he comes home as it is", x.struck(kind, 0, 1), 0);
            Due.is("at home", x.struck(kind, 7, 1), 0);
            Due.is("he is lost as it is", x.struck(kind, 5, 0), 0);
            Due.is("of no ways", new ReadPass().struck(kind, 5, 0), 0);
        }
    }

    private static void struckNoneByNone() {
        Due.says("NONE: by none.");
        ReadPass x = Due.pass("01,17;1<0:b,0<1:a,7<1:a");
        for (int kind = 0; kind < 4; kind++) {
            Due.is("nothing keeps him from home", x.struck(kind, 0, 0), NONE);
            Due.is("he is at home", x.struck(kind, 7, 0), NONE);
            Due.is("nothing leads him home", x.struck(kind, 5, 1), NONE);
            Due.is("of no ways", new ReadPass().struck(kind, 5, 1), NONE);
            Due.is("of no ways, at home", new ReadPass().struck(kind, 7, 0), NONE);
        }
    }

    private static void struckAllButOne() {
        Due.says("the fewest STONES that must be away so that he comes HOME: seven of eight");
        ReadPass x = Due.pass("56?,05?,15,01,67?,17?,23?,46?,57,04,36,24;"
                + "0<5:i,1<7:k,2<3:l,3<2:k,4<0:j,5<7:i,6<5:k,7<1:k", 3, 227);
        Due.is("struck", x.struck(0, 4, 1), 255 - 8);
        Due.is("he is not home as it is", x.struck(0, 4, 0), 0);
        for (int p = 0; p < 8; p++) {
            if (p != 3) {
                Due.is("he is not home yet", x.walk(0, 4, 1) == 0 ? 1 : 0, 0);
                x.strike(p);
            }
        }
        Due.is("he comes home", x.walk(0, 4, 1), 0);
        Due.is("no more must be away", x.struck(0, 4, 1), 0);
    }

    private static void fewestNotLeast() {
        Due.says("the fewest STONES that must be away");
        ReadPass x = Due.pass("01,13?,02?,12?,03?;0<3:a,1<2:b,2<1:e", 3, 16);
        Due.is("one of place 2, not two of 0 and 1", x.struck(0, 2, 1), 4);
    }

    private static void theLeastSetOfLikeOnes() {
        Due.says("of like ones the least set of their PLACES");
        ReadPass x = Due.pass("24,06,47?,36?,05,26,34?,57?,45?,16?,17;0<5:j,2<4:k,4<3:c,6<2:h", 1, 832);
        Due.is("2 and 4, not 0 and 6", x.struck(0, 3, 1), 20);
        x = Due.pass("17?,27,14,67?,07,56?,15,36?,47?,57,23,16;1<6:c,2<3:i,3<6:h,5<6:a,7<4:j", 4, 265);
        Due.is("2 and 3, not 1 and 7", x.struck(0, 3, 1), 12);
        x = Due.pass("01?,14?,02?,37?,13,35?,05?,46,16,67,56;0<5:f,1<4:i,3<7:h,4<6:a,6<5:a", 2, 41);
        Due.is("3 and 4, not 1 and 6, 3 and 6", x.struck(0, 1, 1), 24);
    }

    private static void orThatHeDoesNot() {
        Due.says("HOME or not: (or so that he does not)");
        ReadPass x = Due.pass("16,34?,27?,57?,15?,47,46,06?,37?;4<7:b,7<4:b", 3, 412);
        Due.is("he comes home as it is", x.struck(0, 1, 1), 0);
        Due.is("one stone", x.struck(0, 1, 0), 128);
        for (int kind = 1; kind < 4; kind++) {
            Due.is("who is not lied to", x.struck(kind, 1, 0), NONE);
        }
        x.strike(7);
        Due.is("he does not", x.struck(0, 1, 0), 0);
        Due.is("but without the other", x.struck(0, 1, 1), 16);
        x = Due.pass("04,02,07,14?,36?,15?,01?,56?,26?,34,57;"
                + "0<4:g,1<4:a,2<6:j,3<6:f,4<3:c,5<6:f,6<2:b", 6, 312);
        Due.is("four stones", x.struck(0, 0, 0), 15);
        Due.is("he comes home as it is", x.struck(0, 0, 1), 0);
    }

    private static void roundIsNotHome() {
        Due.says("so that he comes HOME (or so that he does not): ROUND is not HOME");
        ReadPass x = Due.pass("07?,01,12,23,37;1<2:a", 7, 1);
        Due.is("round as it is", x.walk(0, 0, 1), 2);
        Due.is("he does not", x.struck(0, 0, 0), 0);
        Due.is("he comes home", x.struck(0, 0, 1), 2);
    }

    private static void struckEachPlace() {
        Due.says("PLACES, as a set");
        for (int p = 1; p < 7; p++) {
            String text = "0" + p + "," + p + "7;" + p + "<7:b";
            Due.is("the stone of " + p, Due.pass(text).struck(0, 0, 1), 1 << p);
            Due.is("a mute", Due.pass(text).struck(2, 0, 1), 0);
        }
        Due.is("the stone of 0", Due.pass("20,07;0<7:b").struck(0, 2, 1), 1);
        Due.is("the stone of 7", Due.pass("57,56?,67;7<6:c", 6, 2).struck(0, 5, 1), 128);
    }

    private static void allElseAsItIs() {
        Due.says("(all else as it is)");
        ReadPass x = Due.pass("01,17?;1<7:b", 7, 0);
        Due.is("in this snow", x.struck(0, 0, 1), 2);
        x.snow(2);
        Due.is("in that snow", x.struck(0, 0, 1), NONE);
        x.home(1);
        Due.is("to that home", x.struck(0, 0, 1), 0);
        Due.is("the stone stays", x.count(2), 1);
        Due.is("the snow stays", x.count(4), 2);
        Due.is("the home stays", x.count(3), 1);
        Due.is("a stone that does no harm stays",
                Due.pass("01,17;0<1:a,1<7:b,7<1:b").struck(0, 0, 1), 2);
    }

    private static void restoreOfNone() {
        Due.says("restore: NONE: there is none.");
        ReadPass x = new ReadPass();
        Due.is("restore", x.restore(), NONE);
        x.way(0, 1, false);
        x.home(3);
        Due.is("restore", x.restore(), NONE);
        Due.is("ways stay", x.count(0), 1);
        Due.is("home stays", x.count(3), 3);
        Due.is("image", x.image(), 1);
        Due.is("restore", x.restore(), 1);
    }

    private static void imageOfANewObject() {
        Due.says("All is as it was then");
        ReadPass x = new ReadPass();
        Due.is("image", x.image(), 1);
        Due.typed(x, "01?,12,23?;1<0:a");
        x.pass();
        x.snow(5);
        x.home(2);
        Due.is("restore", x.restore(), 1);
        Due.same("restore leaves a new one", View.of(x), View.of(imaged(new ReadPass())));
    }

    private static ReadPass imaged(ReadPass x) {
        x.image();
        return x;
    }

    private static void imageKeepsAllButSheetsAndTape() {
        Due.says("All but SHEETS, THE TAPE is kept as an IMAGE");
        ReadPass x = View.rich("67,5");
        Due.is("image", x.image(), 1);
        x.way(3, 5, false);
        x.stone(1, 2, 3);
        x.stone(5, 3, 3);
        x.strike(4);
        x.snow(63);
        x.home(0);
        x.type(0x36, 1);
        x.sheet(3, 1, 4);
        x.drop(2);
        x.item(0, 0, 0, 9);
        Due.is("restore", x.restore(), 1);
        ReadPass y = View.rich("67,56");
        y.image();
        y.sheet(3, 1, 4);
        y.drop(2);
        y.item(0, 0, 0, 9);
        Due.same("restore leaves", View.of(x), View.of(y));
    }

    private static void restoreAgainAndAgain() {
        Due.says("All is as it was then");
        ReadPass x = Due.pass("01?,12,27;1<0:a", 7, 1);
        x.image();
        for (int k = 0; k < 5; k++) {
            Due.typed(x, k % 2 == 0 ? "45" : "45,8");
            Due.is("pass or fault", x.pass(), k % 2 == 0 ? 1 : -23);
            x.home(k);
            x.strike(1);
            Due.is("restore", x.restore(), 1);
            Due.is("ways", x.count(0), 3);
            Due.is("doubtful", x.count(1), 1);
            Due.is("stones", x.count(2), 1);
            Due.is("home", x.count(3), 7);
            Due.is("snow", x.count(4), 1);
            Due.is("worst(1)", x.worst(1), 2);
            Due.is("worst(4)", x.worst(4), NONE);
            Due.is("shut(2, 0)", x.shut(2, 0), 1);
        }
    }

    private static void theLastImage() {
        Due.says("kept as an IMAGE: the last one alone");
        ReadPass x = Due.pass("01,12");
        x.image();
        x.way(2, 3, true);
        x.image();
        x.way(3, 4, true);
        x.restore();
        Due.is("ways", x.count(0), 3);
        x.restore();
        Due.is("ways", x.count(0), 3);
        x.snow(4);
        x.image();
        x.snow(0);
        x.restore();
        Due.is("snow", x.count(4), 4);
    }
}
