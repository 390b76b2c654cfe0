import java.util.ArrayDeque;
import java.util.ArrayList;
import java.util.HashMap;
import java.util.HashSet;
import java.util.List;
import java.util.Map;
import java.util.Random;
import java.util.Set;

/** Promises 12 to 18, 21, 22 on many passes, against answers found the plainest way. */
public final class OracleTest {
    private static final int FAR = 1000;

    private int[] low = new int[12];
    private int[] high = new int[12];
    private int ways;
    private int doubtful;
    private int snow;
    private int home = 7;
    private final int[] side = new int[8];
    private final int[] about = new int[8];
    private int stones;
    private ReadPass x;

    public static void main(String[] args) {
        Random random = new Random(20261119);
        for (int k = 0; k < 400; k++) {
            OracleTest one = new OracleTest();
            one.make(random);
            one.readings();
            one.journeys(random);
            one.best();
            if (k % 8 == 0) {
                one.strikes();
                one.tracks(random);
            }
        }
        Due.end();
    }

    private void make(Random random) {
        x = new ReadPass();
        int places = 3 + random.nextInt(6);
        int wanted = 1 + random.nextInt(12);
        for (int k = 0; k < 40 && ways < wanted; k++) {
            int a = random.nextInt(places);
            int b = random.nextInt(places);
            boolean isDoubtful = random.nextInt(3) > 0;
            if (a == b || between(a, b) >= 0) {
                continue;
            }
            if (isDoubtful && Integer.bitCount(doubtful) == 6) {
                Due.is("a seventh", x.way(a, b, true), -3);
                isDoubtful = false;
            }
            Due.is("way", x.way(a, b, isDoubtful), ways);
            low[ways] = Math.min(a, b);
            high[ways] = Math.max(a, b);
            doubtful |= isDoubtful ? 1 << ways : 0;
            ways++;
        }
        for (int p = 0; p < 8; p++) {
            int s = random.nextInt(places);
            int w = random.nextInt(ways);
            if (random.nextInt(5) > 0 && between(p, s) >= 0) {
                side[p] = s;
                about[p] = w;
                stones |= 1 << p;
                Due.is("stone", x.stone(p, s, w), Integer.bitCount(stones));
            }
        }
        snow = random.nextInt(4096) & doubtful;
        x.snow(snow);
        home = random.nextInt(places);
        x.home(home);
    }

    private int between(int a, int b) {
        for (int w = 0; w < ways; w++) {
            if (low[w] == a && high[w] == b || low[w] == b && high[w] == a) {
                return w;
            }
        }
        return -1;
    }

    private boolean tells(int place, int from, int underSnow) {
        boolean isOpen = (underSnow >> about[place] & 1) == 0;
        return side[place] == from ? isOpen : !isOpen;
    }

    private void readings() {
        for (int p = 0; p < 8; p++) {
            for (int f = 0; f < 8; f++) {
                int want = between(p, f) < 0 ? -2 : (stones >> p & 1) == 0 ? -4 : tells(p, f, snow) ? 1 : 0;
                Due.is("read(" + p + ", " + f + ")", x.read(p, f), want);
            }
        }
    }

    /** Distances home by the ways believed open. */
    private int[] distances(boolean[] believed) {
        int[] far = new int[8];
        java.util.Arrays.fill(far, FAR);
        far[home] = 0;
        ArrayDeque<Integer> queue = new ArrayDeque<>();
        queue.add(home);
        while (!queue.isEmpty()) {
            int p = queue.remove();
            for (int w = 0; w < ways; w++) {
                int q = low[w] == p ? high[w] : high[w] == p ? low[w] : -1;
                if (q >= 0 && believed[w] && far[q] == FAR) {
                    far[q] = far[p] + 1;
                    queue.add(q);
                }
            }
        }
        return far;
    }

    private static final class Trip {
        final List<Integer> places = new ArrayList<>();
        int ending;
        int shut;
    }

    private Trip trip(int kind, int from, int underSnow, int withStones) {
        Trip t = new Trip();
        boolean[] believed = new boolean[12];
        java.util.Arrays.fill(believed, true);
        Set<String> seen = new HashSet<>();
        int place = from;
        t.places.add(place);
        while (true) {
            if (place == home) {
                t.ending = 0;
                break;
            }
            if (!seen.add(place + java.util.Arrays.toString(believed))) {
                t.ending = 2;
                break;
            }
            int[] far = distances(believed);
            int to = -1;
            for (int q = 7; q >= 0; q--) {
                int w = between(place, q);
                if (w >= 0 && believed[w] && far[q] < FAR && (to < 0 || far[q] <= far[to])) {
                    to = q;
                }
            }
            if (to < 0) {
                t.ending = 1;
                break;
            }
            int w = between(place, to);
            if ((underSnow >> w & 1) == 1) {
                believed[w] = false;
            } else {
                believed[w] = true;
                if ((withStones >> to & 1) == 1) {
                    boolean fromSide = side[to] == place;
                    boolean says = tells(to, place, underSnow);
                    if (kind == 0 || kind == 1 && fromSide) {
                        believed[about[to]] = says;
                    } else if (kind == 3) {
                        believed[about[to]] = (underSnow >> about[to] & 1) == 0;
                    }
                }
                place = to;
            }
            t.places.add(place);
        }
        for (int w = 0; w < ways; w++) {
            t.shut |= believed[w] ? 0 : 1 << w;
        }
        return t;
    }

    private void journeys(Random random) {
        for (int kind = 0; kind < 4; kind++) {
            for (int from = 0; from < 8; from++) {
                Trip t = trip(kind, from, snow, stones);
                int steps = t.places.size() - 1;
                String call = "(" + kind + ", " + from + ")";
                Due.is("walk 0 " + call, x.walk(kind, from, 0), steps);
                Due.is("walk 1 " + call, x.walk(kind, from, 1), t.ending);
                Due.is("walk 2 " + call, x.walk(kind, from, 2), t.places.get(steps));
                Due.is("shut " + call, x.shut(kind, from), t.shut);
                int n = random.nextInt(steps + 2);
                if (n <= 99) {
                    Due.is("at " + n + " " + call, x.at(kind, from, n), n > steps ? -4 : t.places.get(n));
                }
            }
        }
    }

    private void strikes() {
        for (int kind = 0; kind < 4; kind++) {
            for (int from = 0; from < 8; from++) {
                for (int wanted = 0; wanted < 2; wanted++) {
                    int best = -4;
                    for (int set = 255; set >= 0; set--) {
                        boolean isHome = (set & ~stones) == 0
                                && trip(kind, from, snow, stones & ~set).ending == 0;
                        if ((set & ~stones) == 0 && isHome == (wanted == 1)
                                && (best < 0 || Integer.bitCount(set) <= Integer.bitCount(best))) {
                            best = set;
                        }
                    }
                    Due.is("struck(" + kind + ", " + from + ", " + wanted + ")", x.struck(kind, from, wanted), best);
                }
            }
        }
    }

    private void tracks(Random random) {
        for (int lane = 0; lane < 3; lane++) {
            for (int k = 0; k < 6; k++) {
                int kind = random.nextInt(4);
                int from = random.nextInt(8);
                Trip t = trip(kind, from, snow, stones);
                int n = 1 + random.nextInt(24);
                int had = Math.min(n, t.places.size() - 1);
                x.sheet(lane, lane, had);
                Due.is("film", x.film(kind, from, lane, lane, 0, n), had);
                int reader = random.nextInt(3) == 0 ? random.nextInt(4) : kind;
                if (had > 0) {
                    int taken = 1 + random.nextInt(had);
                    trackOf(reader, from, lane, taken, t.places);
                }
            }
        }
    }

    private void trackOf(int kind, int from, int lane, int n, List<Integer> places) {
        int count = 0;
        int shutInAll = doubtful;
        int openInAll = doubtful;
        for (int s = 0; s < 4096; s++) {
            if ((s & ~doubtful) != 0) {
                continue;
            }
            Trip t = trip(kind, from, s, stones);
            if (t.places.size() > n && t.places.subList(1, n + 1).equals(places.subList(1, n + 1))) {
                count++;
                shutInAll &= s;
                openInAll &= ~s;
            }
        }
        Due.is("track 0", x.track(kind, from, lane, lane, 0, n, 0), count);
        Due.is("track 1", x.track(kind, from, lane, lane, 0, n, 1), count == 0 ? -4 : shutInAll);
        Due.is("track 2", x.track(kind, from, lane, lane, 0, n, 2), count == 0 ? -4 : openInAll);
    }

    /** The steps at worst, found by asking for each number of steps whether it is enough. */
    private final Map<Integer, Boolean> enough = new HashMap<>();

    private void best() {
        enough.clear();
        for (int from = 0; from < 8; from++) {
            int least = -4;
            for (int budget = 0; budget <= 8 && least < 0; budget++) {
                least = canDo(from, 0, 0, budget) ? budget : -4;
            }
            Due.is("worst(" + from + ")", x.worst(from), least);
            int first = -4;
            for (int to = 7; to >= 0 && least > 0; to--) {
                int w = between(from, to);
                if (w >= 0 && goesBy(from, w, to, 0, 0, least)) {
                    first = to;
                }
            }
            Due.is("next(" + from + ")", x.next(from), first);
        }
    }

    private boolean canDo(int place, int open, int shut, int budget) {
        if (place == home) {
            return true;
        }
        if (budget == 0) {
            return false;
        }
        int key = ((place << 12 | open) << 12 | shut) * 9 + budget;
        Boolean was = enough.get(key);
        if (was != null) {
            return was;
        }
        boolean can = false;
        for (int to = 0; to < 8 && !can; to++) {
            int w = between(place, to);
            can = w >= 0 && goesBy(place, w, to, open, shut, budget);
        }
        enough.put(key, can);
        return can;
    }

    private boolean goesBy(int place, int w, int to, int open, int shut, int budget) {
        int bit = 1 << w;
        if ((shut & bit) != 0) {
            return false;
        }
        if ((doubtful & bit) == 0 || (open & bit) != 0) {
            return comes(to, open, shut, budget - 1);
        }
        return canDo(place, open, shut | bit, budget - 1) && comes(to, open | bit, shut, budget - 1);
    }

    private boolean comes(int to, int open, int shut, int budget) {
        int bit = (stones >> to & 1) == 0 ? 0 : 1 << about[to];
        if ((bit & doubtful) == 0 || (bit & (open | shut)) != 0) {
            return canDo(to, open, shut, budget);
        }
        return canDo(to, open | bit, shut, budget) && canDo(to, open, shut | bit, budget);
    }
}
