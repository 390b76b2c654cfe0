import java.util.ArrayList;
import java.util.Arrays;
import java.util.HashMap;
import java.util.HashSet;
import java.util.List;
import java.util.Map;
import java.util.Set;
import java.util.TreeMap;

/** The document in its plainest form, with lists and maps, and as unlike the class as can be. */
final class Twin {
    private static final int BAD = -1, NOT = -2, FULL = -3, NONE = -4;
    private static final int NULL = -11, CAST = -12, INDEX = -13, SIZE = -14;
    private static final int NEVER = 1_000_000;

    private record Way(int low, int high, boolean doubtful) {
        boolean joins(int a, int b) {
            return low == Math.min(a, b) && high == Math.max(a, b);
        }
    }

    private record Stone(int side, int way) {
    }

    private record Pass(List<Way> ways, Map<Integer, Stone> stones, Set<Integer> snow, int home) {
    }

    private static final class Row {
        final int lane;
        final List<Long> items = new ArrayList<>();

        Row(int lane) {
            this.lane = lane;
        }
    }

    private List<Way> ways = new ArrayList<>();
    private Map<Integer, Stone> stones = new TreeMap<>();
    private Set<Integer> snow = new HashSet<>();
    private int home = 7;
    private String tape = "";
    private Pass image = null;
    private final Row[] sheets = new Row[4];
    private final Map<String, int[]> best = new HashMap<>();

    private static boolean in(int number, int least, int most) {
        return number >= least && number <= most;
    }

    private int wayOf(int a, int b) {
        for (Way w : ways) {
            if (w.joins(a, b)) {
                return ways.indexOf(w);
            }
        }
        return -1;
    }

    private int doubtful() {
        int set = 0;
        for (int w = 0; w < ways.size(); w++) {
            set += ways.get(w).doubtful() ? 1 << w : 0;
        }
        return set;
    }

    private static int asSet(Iterable<Integer> elements) {
        int set = 0;
        for (int e : elements) {
            set |= 1 << e;
        }
        return set;
    }

    private static Set<Integer> ofSet(int set) {
        Set<Integer> elements = new HashSet<>();
        for (int e = 0; e < 32; e++) {
            if ((set >> e & 1) == 1) {
                elements.add(e);
            }
        }
        return elements;
    }

    int way(int a, int b, boolean doubtful) {
        if (!in(a, 0, 7) || !in(b, 0, 7) || a == b) {
            return BAD;
        }
        if (wayOf(a, b) >= 0) {
            return NOT;
        }
        if (ways.size() == 12 || doubtful && Integer.bitCount(doubtful()) == 6) {
            return FULL;
        }
        ways.add(new Way(Math.min(a, b), Math.max(a, b), doubtful));
        return ways.size() - 1;
    }

    int told(int way, int what) {
        if (!in(way, 0, ways.size() - 1) || !in(what, 0, 3)) {
            return BAD;
        }
        Way w = ways.get(way);
        return List.of(w.low(), w.high(), w.doubtful() ? 1 : 0, snow.contains(way) ? 1 : 0).get(what);
    }

    int stone(int place, int side, int way) {
        if (!in(place, 0, 7) || !in(side, 0, 7) || !in(way, 0, ways.size() - 1)) {
            return BAD;
        }
        if (wayOf(place, side) < 0) {
            return NOT;
        }
        stones.put(place, new Stone(side, way));
        return stones.size();
    }

    int strike(int place) {
        if (!in(place, 0, 7)) {
            return BAD;
        }
        return stones.remove(place) == null ? NOT : stones.size();
    }

    int of(int place, int what) {
        if (!in(place, 0, 7) || !in(what, 0, 1)) {
            return BAD;
        }
        Stone s = stones.get(place);
        return s == null ? NONE : what == 0 ? s.side() : s.way();
    }

    int home(int place) {
        if (!in(place, 0, 7)) {
            return BAD;
        }
        int was = home;
        home = place;
        return was;
    }

    int snow(int set) {
        for (int w : ofSet(set)) {
            if (w >= ways.size() || !ways.get(w).doubtful()) {
                return BAD;
            }
        }
        int was = asSet(snow);
        snow = ofSet(set);
        return was;
    }

    int type(long w, int n) {
        if (!in(n, 1, 8)) {
            return BAD;
        }
        StringBuilder text = new StringBuilder();
        for (int k = 0; k < n; k++) {
            int b = (int) (w & 255);
            w >>= 8;
            if (!in(b, 32, 126)) {
                return BAD;
            }
            text.insert(0, (char) b);
        }
        if (tape.length() + n > 100) {
            return FULL;
        }
        tape += text;
        return tape.length();
    }

    int count(int what) {
        if (!in(what, 0, 4)) {
            return BAD;
        }
        return new int[] {ways.size(), doubtful(), stones.size(), home, asSet(snow)}[what];
    }

    // ---- texts: which signs can stand behind the signs so far

    int pass() {
        String text = tape;
        tape = "";
        List<Way> newWays = new ArrayList<>();
        Map<Integer, Stone> newStones = new TreeMap<>();
        String so = "";
        for (int i = 0; i < text.length(); i++) {
            char c = text.charAt(i);
            if (c != ' ') {
                if (allowed(so, newWays, newStones).indexOf(c) < 0) {
                    return -20 - i;
                }
                so += c;
                take(so, newWays, newStones);
            }
        }
        String next = allowed(so, newWays, newStones);
        if (next.indexOf('$') < 0) {
            return -20 - text.length();
        }
        ways = newWays;
        stones = newStones;
        snow = new HashSet<>();
        return ways.size();
    }

    /** The signs that can stand next; $ stands for the end. */
    private static String allowed(String so, List<Way> ways, Map<Integer, Stone> stones) {
        String part = so.substring(Math.max(so.lastIndexOf(','), so.lastIndexOf(';')) + 1);
        StringBuilder all = new StringBuilder();
        if (so.indexOf(';') < 0) {
            if (part.length() == 0) {
                return "01234567";
            }
            if (part.length() == 1) {
                int a = part.charAt(0) - '0';
                for (int b = 0; b < 8; b++) {
                    int other = b;
                    if (a != b && ways.stream().noneMatch(w -> w.joins(a, other))) {
                        all.append(b);
                    }
                }
                return all.toString();
            }
            long doubts = ways.stream().filter(Way::doubtful).count();
            return (part.length() == 2 && doubts < 6 ? "?" : "") + (ways.size() < 12 ? "," : "") + ";$";
        }
        switch (part.length()) {
            case 0:
                for (int p = 0; p < 8; p++) {
                    all.append(stones.containsKey(p) ? "" : p);
                }
                return all.toString();
            case 1: return "<";
            case 2:
                for (int s = 0; s < 8; s++) {
                    int side = s;
                    all.append(ways.stream().anyMatch(w -> w.joins(part.charAt(0) - '0', side)) ? s : "");
                }
                return all.toString();
            case 3: return ":";
            case 4: return "abcdefghijkl".substring(0, ways.size());
            default: return (stones.size() < 8 ? "," : "") + "$";
        }
    }

    private static void take(String so, List<Way> ways, Map<Integer, Stone> stones) {
        String part = so.substring(Math.max(so.lastIndexOf(','), so.lastIndexOf(';')) + 1);
        if (so.indexOf(';') < 0 && part.length() == 2) {
            int a = part.charAt(0) - '0';
            int b = part.charAt(1) - '0';
            ways.add(new Way(Math.min(a, b), Math.max(a, b), false));
        } else if (so.indexOf(';') < 0 && part.length() == 3) {
            Way w = ways.remove(ways.size() - 1);
            ways.add(new Way(w.low(), w.high(), true));
        } else if (part.length() == 5) {
            stones.put(part.charAt(0) - '0', new Stone(part.charAt(2) - '0', part.charAt(4) - 'a'));
        }
    }

    // ---- journeys

    int read(int place, int from) {
        if (!in(place, 0, 7) || !in(from, 0, 7)) {
            return BAD;
        }
        if (wayOf(place, from) < 0) {
            return NOT;
        }
        return stones.containsKey(place) ? tells(stones.get(place), from, snow) ? 1 : 0 : NONE;
    }

    private static boolean tells(Stone s, int from, Set<Integer> underSnow) {
        boolean open = !underSnow.contains(s.way());
        return s.side() == from ? open : !open;
    }

    /** Where the reader stands behind each step, the place he comes from ahead of all. */
    private final class Journey {
        final List<Integer> places = new ArrayList<>();
        final Set<Integer> shut = new HashSet<>();
        int ending = -1;

        Journey(int kind, int from, Set<Integer> underSnow, Map<Integer, Stone> withStones) {
            Set<List<Object>> past = new HashSet<>();
            places.add(from);
            int here = from;
            while (ending < 0) {
                int to = here == home ? here : choice(here);
                if (here == home) {
                    ending = 0;
                } else if (!past.add(List.of(here, new HashSet<>(shut)))) {
                    ending = 2;
                } else if (to < 0) {
                    ending = 1;
                } else {
                    here = step(kind, here, to, underSnow, withStones);
                    places.add(here);
                }
            }
        }

        private int step(int kind, int here, int to, Set<Integer> underSnow, Map<Integer, Stone> withStones) {
            int by = wayOf(here, to);
            if (underSnow.contains(by)) {
                shut.add(by);
                return here;
            }
            shut.remove(by);
            Stone s = withStones.get(to);
            boolean reads = s != null && kind != 2 && !(kind == 1 && s.side() != here);
            if (reads) {
                boolean open = tells(s, here, underSnow);
                if (kind == 3 && s.side() != here) {
                    open = !open;
                }
                if (open) {
                    shut.remove(s.way());
                } else {
                    shut.add(s.way());
                }
            }
            return to;
        }

        private int choice(int here) {
            int found = -1;
            int fewest = NEVER;
            for (int to = 0; to < 8; to++) {
                int by = wayOf(here, to);
                int far = by < 0 || shut.contains(by) ? NEVER : far(to);
                if (far < fewest) {
                    found = to;
                    fewest = far;
                }
            }
            return found;
        }

        /** By as many rounds over all ways as a path can have. */
        private int far(int from) {
            int[] far = new int[8];
            Arrays.fill(far, NEVER);
            far[home] = 0;
            for (int round = 0; round < 8; round++) {
                for (int w = 0; w < ways.size(); w++) {
                    if (!shut.contains(w)) {
                        int a = ways.get(w).low();
                        int b = ways.get(w).high();
                        far[a] = Math.min(far[a], far[b] + 1);
                        far[b] = Math.min(far[b], far[a] + 1);
                    }
                }
            }
            return far[from] >= NEVER ? NEVER : far[from];
        }

        int steps() {
            return places.size() - 1;
        }
    }

    private Journey journey(int kind, int from) {
        return new Journey(kind, from, snow, stones);
    }

    int walk(int kind, int from, int what) {
        if (!in(kind, 0, 3) || !in(from, 0, 7) || !in(what, 0, 2)) {
            return BAD;
        }
        Journey j = journey(kind, from);
        return what == 0 ? j.steps() : what == 1 ? j.ending : j.places.get(j.steps());
    }

    int at(int kind, int from, int n) {
        if (!in(kind, 0, 3) || !in(from, 0, 7) || !in(n, 0, 99)) {
            return BAD;
        }
        Journey j = journey(kind, from);
        return n > j.steps() ? NONE : j.places.get(n);
    }

    int shut(int kind, int from) {
        return !in(kind, 0, 3) || !in(from, 0, 7) ? BAD : asSet(journey(kind, from).shut);
    }

    // ---- the game against the snow: what is known of each way is o, s or - (nothing)

    int worst(int from) {
        if (!in(from, 0, 7)) {
            return BAD;
        }
        int steps = values()[from];
        return steps >= NEVER ? NONE : steps;
    }

    int next(int from) {
        if (!in(from, 0, 7)) {
            return BAD;
        }
        int[] values = values();
        for (int to = 0; to < 8 && from != home && values[from] < NEVER; to++) {
            if (by(known(), values, from, to) == values[from]) {
                return to;
            }
        }
        return NONE;
    }

    private String known() {
        StringBuilder known = new StringBuilder();
        for (Way w : ways) {
            known.append(w.doubtful() ? '-' : 'o');
        }
        return known.toString();
    }

    private int[] values() {
        best.clear();
        return values(known());
    }

    /** The steps home at worst from each place by one who knows so much. */
    private int[] values(String known) {
        int[] was = best.get(known);
        if (was != null) {
            return was;
        }
        int[] values = new int[8];
        Arrays.fill(values, NEVER);
        values[home] = 0;
        boolean changes = true;
        while (changes) {
            changes = false;
            for (int p = 0; p < 8; p++) {
                for (int to = 0; to < 8 && p != home; to++) {
                    int steps = by(known, values, p, to);
                    if (steps < values[p]) {
                        values[p] = steps;
                        changes = true;
                    }
                }
            }
        }
        best.put(known, values);
        return values;
    }

    /** The steps home at worst if one tries to go from a place to another first. */
    private int by(String known, int[] values, int from, int to) {
        int w = wayOf(from, to);
        if (w < 0 || known.charAt(w) == 's') {
            return NEVER;
        }
        if (known.charAt(w) == 'o') {
            return Math.min(NEVER, 1 + come(known, values, to));
        }
        int stays = values(with(known, w, 's'))[from];
        String open = with(known, w, 'o');
        return Math.min(NEVER, 1 + Math.max(stays, come(open, values(open), to)));
    }

    private int come(String known, int[] values, int to) {
        Stone s = stones.get(to);
        if (s == null || known.charAt(s.way()) != '-') {
            return values[to];
        }
        return Math.max(values(with(known, s.way(), 'o'))[to], values(with(known, s.way(), 's'))[to]);
    }

    private static String with(String known, int w, char sign) {
        return known.substring(0, w) + sign + known.substring(w + 1);
    }

    int struck(int kind, int from, int wanted) {
        if (!in(kind, 0, 3) || !in(from, 0, 7) || !in(wanted, 0, 1)) {
            return BAD;
        }
        int found = NONE;
        for (int set = 0; set < 256; set++) {
            Map<Integer, Stone> left = new TreeMap<>(stones);
            if (!left.keySet().containsAll(ofSet(set))) {
                continue;
            }
            left.keySet().removeAll(ofSet(set));
            boolean isFewer = found == NONE || Integer.bitCount(set) < Integer.bitCount(found);
            if (isFewer && (new Journey(kind, from, snow, left).ending == 0) == (wanted == 1)) {
                found = set;
            }
        }
        return found;
    }

    int image() {
        image = new Pass(new ArrayList<>(ways), new TreeMap<>(stones), new HashSet<>(snow), home);
        return 1;
    }

    int restore() {
        if (image == null) {
            return NONE;
        }
        ways = new ArrayList<>(image.ways());
        stones = new TreeMap<>(image.stones());
        snow = new HashSet<>(image.snow());
        home = image.home();
        return 1;
    }

    // ---- sheets

    private int refusal(int sheet, int lane) {
        return sheets[sheet] == null ? NULL : sheets[sheet].lane != lane ? CAST : 0;
    }

    private boolean lacks(int sheet, int i, int n) {
        int size = sheets[sheet].items.size();
        return i < 0 || i > size || n < 0 || (long) i + n > size;
    }

    int track(int kind, int from, int sheet, int lane, int i, int n, int what) {
        if (!in(kind, 0, 3) || !in(from, 0, 7) || !in(sheet, 0, 3) || !in(lane, 0, 2) || !in(n, 1, 24)
                || !in(what, 0, 2)) {
            return BAD;
        }
        if (refusal(sheet, lane) != 0) {
            return refusal(sheet, lane);
        }
        if (lacks(sheet, i, n)) {
            return INDEX;
        }
        int count = 0;
        int shut = doubtful();
        int open = doubtful();
        for (int set = 0; set < 4096; set++) {
            if ((set | doubtful()) == doubtful() && leaves(kind, from, sheet, i, n, set)) {
                count++;
                shut &= set;
                open &= ~set;
            }
        }
        return what == 0 ? count : count == 0 ? NONE : what == 1 ? shut : open;
    }

    private boolean leaves(int kind, int from, int sheet, int i, int n, int set) {
        Journey j = new Journey(kind, from, ofSet(set), stones);
        boolean same = j.steps() >= n;
        for (int k = 0; k < n && same; k++) {
            same = sheets[sheet].items.get(i + k) == j.places.get(k + 1).longValue();
        }
        return same;
    }

    int film(int kind, int from, int sheet, int lane, int i, int n) {
        if (!in(kind, 0, 3) || !in(from, 0, 7) || !in(sheet, 0, 3) || !in(lane, 0, 2) || !in(n, 1, 24)) {
            return BAD;
        }
        if (refusal(sheet, lane) != 0) {
            return refusal(sheet, lane);
        }
        Journey j = journey(kind, from);
        int had = Math.min(n, j.steps());
        if (lacks(sheet, i, had)) {
            return INDEX;
        }
        for (int k = 0; k < had; k++) {
            sheets[sheet].items.set(i + k, j.places.get(k + 1).longValue());
        }
        return had;
    }

    int sheet(int sheet, int lane, int n) {
        if (!in(sheet, 0, 3) || !in(lane, 0, 2) || n > 24) {
            return BAD;
        }
        if (n < 0) {
            return SIZE;
        }
        sheets[sheet] = new Row(lane);
        for (int k = 0; k < n; k++) {
            sheets[sheet].items.add(0L);
        }
        return n;
    }

    int drop(int sheet) {
        if (!in(sheet, 0, 3)) {
            return BAD;
        }
        if (sheets[sheet] == null) {
            return NULL;
        }
        int had = sheets[sheet].items.size();
        sheets[sheet] = null;
        return had;
    }

    int item(int sheet, int lane, int i, long v) {
        if (!in(sheet, 0, 3) || !in(lane, 0, 2)) {
            return BAD;
        }
        if (refusal(sheet, lane) != 0) {
            return refusal(sheet, lane);
        }
        if (lacks(sheet, i, 1)) {
            return INDEX;
        }
        int above = lane == 0 ? 56 : lane == 1 ? 48 : 0;
        sheets[sheet].items.set(i, v << above >> above);
        return 1;
    }

    int copy(int from, int i, int to, int j, int n) {
        if (!in(from, 0, 3) || !in(to, 0, 3)) {
            return BAD;
        }
        if (sheets[from] == null || sheets[to] == null) {
            return NULL;
        }
        if (sheets[from].lane != sheets[to].lane) {
            return CAST;
        }
        if (lacks(from, i, n) || lacks(to, j, n)) {
            return INDEX;
        }
        List<Long> taken = new ArrayList<>(sheets[from].items.subList(i, i + n));
        for (int k = 0; k < n; k++) {
            sheets[to].items.set(j + k, taken.get(k));
        }
        return n;
    }
}
