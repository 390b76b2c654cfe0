import java.util.Random;

/**
 * Runs of calls of all kinds, one after the other, against a plain twin: what a call leaves behind is
 * met by all later ones. Two objects take turns in each run, so that what one is asked shows in no other.
 */
public final class TwinTest {
    private static final int RUNS = 120;
    /** What an object answers beyond so many calls is free. */
    private static final int CALLS = 512;

    private final Random random;
    private final ReadPass[] objects = {new ReadPass(), new ReadPass()};
    private final Twin[] twins = {new Twin(), new Twin()};
    private final String[] texts = {"", ""};
    private final int firstPlace;
    private ReadPass x;
    private Twin t;
    private String call = "";
    private long got;
    private long want;

    private TwinTest(int seed) {
        random = new Random(seed);
        firstPlace = seed % 5;
    }

    public static void main(String[] args) {
        for (int seed = 0; seed < RUNS; seed++) {
            new TwinTest(seed).run(seed);
        }
        Due.end();
    }

    private void run(int seed) {
        int[] used = new int[2];
        while (used[0] + used[1] < 2 * CALLS) {
            int which = random.nextInt(2);
            if (used[which] == CALLS) {
                which = 1 - which;
            }
            used[which]++;
            x = objects[which];
            t = twins[which];
            any(which);
            Due.is("run " + seed + ", object " + which + ", " + call, got, want);
            if (got != want) {
                return;
            }
        }
    }

    private void is(String name, long got, long want, long... numbers) {
        StringBuilder b = new StringBuilder(name).append('(');
        for (int k = 0; k < numbers.length; k++) {
            b.append(k == 0 ? "" : ", ").append(numbers[k]);
        }
        call = b.append(')').toString();
        this.got = got;
        this.want = want;
    }

    /** A number from least to most, now and then another. */
    private int number(int least, int most) {
        if (random.nextInt(40) > 0) {
            return least + random.nextInt(most - least + 1);
        }
        int[] others = {least - 1, most + 1, most + 8, least + 256, -2, Integer.MIN_VALUE, Integer.MAX_VALUE};
        return others[random.nextInt(others.length)];
    }

    /** Few places are joined by more ways, and journeys are longer among them. */
    private int place() {
        return number(firstPlace, 7);
    }

    private int kind() {
        return number(0, 3);
    }

    private void any(int which) {
        int turn = random.nextInt(100);
        if (!texts[which].isEmpty() && random.nextInt(4) > 0) {
            type(which);
        } else if (turn < 12) {
            ways(random.nextInt(3));
        } else if (turn < 24) {
            stones(random.nextInt(4));
        } else if (turn < 30) {
            homeOrSnow();
        } else if (turn < 34) {
            texts[which] = text();
            type(which);
        } else if (turn < 36) {
            is("pass", x.pass(), t.pass());
        } else if (turn < 39) {
            images();
        } else if (turn < 62) {
            journeys(random.nextInt(4));
        } else if (turn < 69) {
            best(random.nextInt(3));
        } else {
            sheets(random.nextInt(6));
        }
    }

    private void ways(int what) {
        if (what == 0) {
            int w = number(0, 11);
            int which = number(0, 3);
            is("told", x.told(w, which), t.told(w, which), w, which);
        } else if (what == 1) {
            int which = number(0, 4);
            is("count", x.count(which), t.count(which), which);
        } else {
            int a = place();
            int b = place();
            boolean isDoubtful = random.nextBoolean();
            is(isDoubtful ? "way, doubtful" : "way", x.way(a, b, isDoubtful), t.way(a, b, isDoubtful), a, b);
        }
    }

    private void stones(int what) {
        int p = place();
        if (what == 0) {
            is("strike", x.strike(p), t.strike(p), p);
        } else if (what == 1) {
            int which = number(0, 1);
            is("of", x.of(p, which), t.of(p, which), p, which);
        } else {
            int side = place();
            int w = number(0, Math.max(0, t.count(0) - 1));
            is("stone", x.stone(p, side, w), t.stone(p, side, w), p, side, w);
        }
    }

    private void homeOrSnow() {
        if (random.nextInt(6) == 0) {
            int p = place();
            is("home", x.home(p), t.home(p), p);
        } else {
            int set = number(0, 4095) & (random.nextInt(8) > 0 ? t.count(1) : -1);
            is("snow", x.snow(set), t.snow(set), set);
        }
    }

    private void images() {
        if (random.nextInt(3) == 0) {
            is("image", x.image(), t.image());
        } else {
            is("restore", x.restore(), t.restore());
        }
    }

    private void journeys(int what) {
        int kind = random.nextInt(3) > 0 ? 0 : kind();
        int from = place();
        if (what == 0) {
            int to = place();
            is("read", x.read(to, from), t.read(to, from), to, from);
        } else if (what == 1) {
            int which = number(0, 2);
            is("walk", x.walk(kind, from, which), t.walk(kind, from, which), kind, from, which);
        } else if (what == 2) {
            int n = random.nextInt(3) == 0 ? number(0, 99) : number(0, 8);
            is("at", x.at(kind, from, n), t.at(kind, from, n), kind, from, n);
        } else {
            is("shut", x.shut(kind, from), t.shut(kind, from), kind, from);
        }
    }

    private void best(int what) {
        int from = place();
        if (what == 0) {
            is("worst", x.worst(from), t.worst(from), from);
        } else if (what == 1) {
            is("next", x.next(from), t.next(from), from);
        } else {
            int kind = random.nextBoolean() ? 0 : kind();
            int home = number(0, 1);
            is("struck", x.struck(kind, from, home), t.struck(kind, from, home), kind, from, home);
        }
    }

    private void sheets(int what) {
        int kind = random.nextBoolean() ? 0 : kind();
        int from = place();
        int s = number(0, 3);
        int lane = random.nextInt(5) > 0 && s >= 0 ? s % 3 : number(0, 2);
        int i = random.nextBoolean() ? 0 : number(-1, 24);
        int n = random.nextInt(3) > 0 ? number(1, 4) : number(1, 24);
        if (what == 0) {
            int which = number(0, 2);
            is("track", x.track(kind, from, s, lane, i, n, which), t.track(kind, from, s, lane, i, n, which),
                    kind, from, s, lane, i, n, which);
        } else if (what == 1 || what == 2) {
            is("film", x.film(kind, from, s, lane, i, n), t.film(kind, from, s, lane, i, n),
                    kind, from, s, lane, i, n);
        } else if (what == 3) {
            long v = random.nextInt(3) > 0 ? random.nextInt(8) | random.nextLong() << 8 * random.nextInt(8)
                    : random.nextInt(8);
            is("item", x.item(s, lane, i, v), t.item(s, lane, i, v), s, lane, i, v);
        } else if (what == 4) {
            int to = number(0, 3);
            int j = number(0, 9);
            int items = number(-1, 9);
            is("copy", x.copy(s, i, to, j, items), t.copy(s, i, to, j, items), s, i, to, j, items);
        } else if (random.nextInt(4) > 0) {
            int items = number(-1, 25);
            is("sheet", x.sheet(s, lane, items), t.sheet(s, lane, items), s, lane, items);
        } else {
            is("drop", x.drop(s), t.drop(s), s);
        }
    }

    /** The next bytes of a text, at its end the pass. */
    private void type(int which) {
        String text = texts[which];
        if (text.equals("!")) {
            texts[which] = "";
            is("pass", x.pass(), t.pass());
            return;
        }
        int n = Math.min(text.length() - 1, random.nextInt(4) > 0 ? 8 : 1 + random.nextInt(8));
        long w = random.nextLong();
        for (int k = 0; k < n; k++) {
            w = w << 8 | text.charAt(k);
        }
        texts[which] = text.substring(n);
        is("type", x.type(w, n), t.type(w, n), w, n);
    }

    /** A pass as a text, with blanks, now and then broken; ! stands behind it. */
    private String text() {
        StringBuilder b = new StringBuilder();
        int places = 8 - firstPlace;
        int ways = Math.min(4 + random.nextInt(9), places * (places - 1) / 2);
        String[] pairs = new String[ways];
        for (int w = 0; w < ways; w++) {
            int a = random.nextInt(places);
            pairs[w] = firstPlace + a + "" + (firstPlace + (a + 1 + random.nextInt(places - 1)) % places);
            for (int v = 0; v < w; v++) {
                String back = new StringBuilder(pairs[w]).reverse().toString();
                if (pairs[v].equals(pairs[w]) || pairs[v].equals(back)) {
                    w--;
                    break;
                }
            }
        }
        int doubts = random.nextInt(7);
        for (int w = 0; w < ways; w++) {
            b.append(w == 0 ? "" : ",").append(pairs[w]).append(w % 2 == 0 && doubts-- > 0 ? "?" : "");
        }
        boolean[] has = new boolean[8];
        int stones = random.nextInt(9);
        for (int k = 0, comma = ';'; k < stones; k++) {
            String pair = pairs[random.nextInt(ways)];
            int at = random.nextInt(2);
            if (!has[pair.charAt(at) - '0']) {
                has[pair.charAt(at) - '0'] = true;
                b.append((char) comma).append(pair.charAt(at)).append('<').append(pair.charAt(1 - at));
                b.append(':').append((char) ('a' + random.nextInt(ways)));
                comma = ',';
            }
        }
        for (int k = random.nextInt(4); k > 0; k--) {
            b.insert(random.nextInt(b.length() + 1), ' ');
        }
        if (random.nextInt(4) == 0) {
            String signs = "0123456789?,;<:abcdlm z";
            int at = random.nextInt(b.length());
            b.setCharAt(at, signs.charAt(random.nextInt(signs.length())));
        }
        return b.append('!').toString();
    }
}
