/** All that an object shows, as a text: objects in the same state show the same. */
final class View {
    static final String RICH = "01?,12?,23?,34?,45?,56?,67,07,02,13,24;1<0:b,2<3:a,4<5:k,6<7:g";
    private static final String LINE = "01,12,23,34,45,56,67";

    private final ReadPass x;
    private final StringBuilder seen = new StringBuilder();

    private View(ReadPass x) {
        this.x = x;
    }

    /**
     * An object in which all is in use: eleven ways, six of them doubtful, stones, snow, an image, a
     * tape, sheets of each lane (full, of five items, of none) and one that holds nothing.
     */
    static ReadPass rich(String tape) {
        ReadPass x = new ReadPass();
        Due.typed(x, LINE);
        x.pass();
        x.sheet(0, 0, 24);
        for (int i = 0; i < 24; i += 7) {
            x.film(2, 0, 0, 0, i, i == 21 ? 3 : 7);
        }
        x.sheet(1, 1, 5);
        x.film(2, 0, 1, 1, 0, 5);
        x.sheet(2, 2, 0);
        Due.typed(x, "01,12?;1<0:b");
        x.pass();
        x.home(3);
        x.snow(2);
        x.image();
        Due.typed(x, RICH);
        x.pass();
        x.home(5);
        x.snow(18);
        Due.typed(x, tape);
        return x;
    }

    static ReadPass rich() {
        return rich("56?,4 5;5<6:a");
    }

    /** It uses the object up: some 400 calls. */
    static String of(ReadPass x) {
        View v = new View(x);
        v.road();
        v.journeys();
        v.ask("type", x.type(32, 1));
        v.ask("pass", x.pass());
        v.road();
        v.ask("restore", x.restore());
        v.road();
        v.sheets();
        return v.seen.toString();
    }

    private void ask(String call, long answer) {
        seen.append(call).append('=').append(answer).append(' ');
    }

    private void road() {
        for (int what = 0; what < 5; what++) {
            ask("count" + what, x.count(what));
        }
        int ways = x.count(0);
        for (int w = 0; w < ways; w++) {
            for (int what = 0; what < 4; what++) {
                ask("told" + w + "." + what, x.told(w, what));
            }
        }
        for (int p = 0; p < 8; p++) {
            ask("of" + p + ".0", x.of(p, 0));
            ask("of" + p + ".1", x.of(p, 1));
            ask("worst" + p, x.worst(p));
        }
    }

    private void journeys() {
        for (int p = 0; p < 8; p++) {
            for (int q = 0; q < 8; q++) {
                ask("read" + p + "." + q, x.read(p, q));
            }
            for (int kind = 0; kind < 4; kind += 3) {
                ask("walk" + kind + "." + p, x.walk(kind, p, 0));
                ask("shut" + kind + "." + p, x.shut(kind, p));
            }
        }
    }

    /** The lane and the length of each sheet, and whether its items go on as a walk along the line. */
    private void sheets() {
        Due.typed(x, LINE);
        ask("line", x.pass());
        x.home(7);
        for (int s = 0; s < 4; s++) {
            for (int lane = 0; lane < 3; lane++) {
                ask("item" + s + "." + lane, x.item(s, lane, -1, 0));
            }
            for (int i = 0; i < 24; i += 7) {
                ask("track" + s + "." + i, x.track(2, 0, s, s, i, s == 1 ? 5 : i == 21 ? 3 : 7, 0));
            }
            ask("drop" + s, x.drop(s));
        }
    }
}
