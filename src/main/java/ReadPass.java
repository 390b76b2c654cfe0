/** A pass of places and ways, with snow, stones and those who read them. */
public final class ReadPass {
    public static final int BAD = -1, NOT = -2, FULL = -3, NONE = -4;
    public static final int NULL = -11, CAST = -12, INDEX = -13, SIZE = -14;

    private static final int PLACES = 8;
    private static final int WAYS = 12;
    private static final int MOST_DOUBTFUL = 6;
    private static final int KINDS = 4;
    private static final int SHEETS = 4;
    private static final int LANES = 3;
    private static final int ITEMS = 24;
    private static final int MOST_AT = 99;
    /** Above what any journey can have: all that can be believed, at every place. */
    private static final int MOST_STEPS = PLACES << WAYS;

    private final Road road;
    private final Road kept;
    private final Road draft;
    private final Tape tape;
    private final Journey journey;
    private final Sheet[] sheets;
    private final int[] trail;
    private boolean hasImage;

    public ReadPass() {
        road = new Road();
        kept = new Road();
        draft = new Road();
        tape = new Tape();
        journey = new Journey();
        sheets = new Sheet[SHEETS];
        for (int i = 0; i < SHEETS; i++) {
            sheets[i] = new Sheet();
        }
        trail = new int[ITEMS];
    }

    // ---- 1 ways, stones

    public int way(int a, int b, boolean doubtful) {
        if (!isPlace(a) || !isPlace(b) || a == b) {
            return BAD;
        }
        if (road.isJoined(a, b)) {
            return NOT;
        }
        if (!road.hasRoom(doubtful)) {
            return FULL;
        }
        return road.join(a, b, doubtful);
    }

    public int told(int way, int what) {
        if (!road.isWay(way)) {
            return BAD;
        }
        switch (what) {
            case 0: return road.lesserOf(way);
            case 1: return road.greaterOf(way);
            case 2: return bitOf(road.doubtful, way);
            case 3: return bitOf(road.covered, way);
            default: return BAD;
        }
    }

    public int stone(int place, int side, int way) {
        if (!isPlace(place) || !isPlace(side) || !road.isWay(way)) {
            return BAD;
        }
        if (!road.isJoined(place, side)) {
            return NOT;
        }
        road.setStone(place, side, way);
        return Integer.bitCount(road.stones);
    }

    public int strike(int place) {
        if (!isPlace(place)) {
            return BAD;
        }
        if (!road.hasStone(place)) {
            return NOT;
        }
        road.takeStone(place);
        return Integer.bitCount(road.stones);
    }

    public int of(int place, int what) {
        if (!isPlace(place) || !isFrom0(what, 2)) {
            return BAD;
        }
        if (!road.hasStone(place)) {
            return NONE;
        }
        return what == 0 ? road.sideOf(place) : road.aboutOf(place);
    }

    public int home(int place) {
        if (!isPlace(place)) {
            return BAD;
        }
        int was = road.goal;
        road.goal = place;
        return was;
    }

    public int snow(int set) {
        if ((set & ~road.doubtful) != 0) {
            return BAD;
        }
        int was = road.covered;
        road.covered = set;
        return was;
    }

    public int type(long w, int n) {
        if (!isTypeable(w, n)) {
            return BAD;
        }
        return tape.add(w, n) ? tape.length : FULL;
    }

    public int pass() {
        int fault = tape.parse(draft);
        tape.length = 0;
        if (fault < 0) {
            return fault;
        }
        draft.goal = road.goal;
        road.become(draft);
        return road.ways;
    }

    public int count(int what) {
        switch (what) {
            case 0: return road.ways;
            case 1: return road.doubtful;
            case 2: return Integer.bitCount(road.stones);
            case 3: return road.goal;
            case 4: return road.covered;
            default: return BAD;
        }
    }

    // ---- 2 journeys

    public int read(int place, int from) {
        if (!isPlace(place) || !isPlace(from)) {
            return BAD;
        }
        if (!road.isJoined(place, from)) {
            return NOT;
        }
        if (!road.hasStone(place)) {
            return NONE;
        }
        return road.saysOpen(place, from, road.covered) ? 1 : 0;
    }

    public int walk(int kind, int from, int what) {
        if (!isKind(kind) || !isPlace(from) || !isFrom0(what, 3)) {
            return BAD;
        }
        travel(kind, from, MOST_STEPS);
        switch (what) {
            case 0: return journey.steps;
            case 1: return journey.ending;
            default: return journey.place;
        }
    }

    public int at(int kind, int from, int n) {
        if (!isKind(kind) || !isPlace(from) || n < 0 || n > MOST_AT) {
            return BAD;
        }
        travel(kind, from, n);
        return journey.steps < n ? NONE : journey.place;
    }

    public int shut(int kind, int from) {
        if (!isKind(kind) || !isPlace(from)) {
            return BAD;
        }
        travel(kind, from, MOST_STEPS);
        return journey.believedShut;
    }

    // ---- 3 what is best, what was

    // Under the snow that shuts every doubtful way only clear ways lead home, and trying others
    // costs steps; by clear ways alone one needs as few under any snow. So these decide.

    public int worst(int from) {
        if (!isPlace(from)) {
            return BAD;
        }
        int place = from;
        int steps = 0;
        while (place != road.goal && steps < PLACES) {
            place = Net.towards(road.clearNet, place, road.goal);
            if (place < 0) {
                return NONE;
            }
            steps++;
        }
        return steps;
    }

    public int next(int from) {
        if (!isPlace(from)) {
            return BAD;
        }
        int place = from == road.goal ? -1 : Net.towards(road.clearNet, from, road.goal);
        return place < 0 ? NONE : place;
    }

    public int struck(int kind, int from, int home) {
        if (!isKind(kind) || !isPlace(from) || !isFrom0(home, 2)) {
            return BAD;
        }
        for (int size = 0; size <= Integer.bitCount(road.stones); size++) {
            int set = struckOfSize(kind, from, home == 1, size);
            if (set >= 0) {
                return set;
            }
        }
        return NONE;
    }

    public int image() {
        kept.become(road);
        hasImage = true;
        return 1;
    }

    public int restore() {
        if (!hasImage) {
            return NONE;
        }
        road.become(kept);
        return 1;
    }

    // ---- 4 sheets

    public int track(int kind, int from, int sheet, int lane, int i, int n, int what) {
        if (!isFilmable(kind, from, sheet, lane, n) || !isFrom0(what, 3)) {
            return BAD;
        }
        Sheet row = sheets[sheet];
        int refused = row.refusal(lane);
        if (refused != 0) {
            return refused;
        }
        if (!row.has(i, n)) {
            return INDEX;
        }
        int snows = 0;
        int shutInAll = road.doubtful;
        int openInAll = road.doubtful;
        int snow = 0;
        for (int k = 0; k < 1 << MOST_DOUBTFUL; k++) {
            if (leaves(kind, from, snow, row, i, n)) {
                snows++;
                shutInAll &= snow;
                openInAll &= ~snow;
            }
            // counts in the bits of the doubtful ways alone, so that each set of them comes once
            snow = (snow - road.doubtful) & road.doubtful;
            if (snow == 0) {
                break;
            }
        }
        if (what == 0) {
            return snows;
        }
        if (snows == 0) {
            return NONE;
        }
        return what == 1 ? shutInAll : openInAll;
    }

    public int film(int kind, int from, int sheet, int lane, int i, int n) {
        if (!isFilmable(kind, from, sheet, lane, n)) {
            return BAD;
        }
        Sheet row = sheets[sheet];
        int refused = row.refusal(lane);
        if (refused != 0) {
            return refused;
        }
        int steps = layTrail(kind, from, n);
        if (!row.has(i, steps)) {
            return INDEX;
        }
        for (int k = 0; k < steps; k++) {
            row.put(i + k, trail[k]);
        }
        return steps;
    }

    public int sheet(int sheet, int lane, int n) {
        if (!isFrom0(sheet, SHEETS) || !isFrom0(lane, LANES) || n > ITEMS) {
            return BAD;
        }
        if (n < 0) {
            return SIZE;
        }
        sheets[sheet].renew(lane, n);
        return n;
    }

    public int drop(int sheet) {
        if (!isFrom0(sheet, SHEETS)) {
            return BAD;
        }
        Sheet row = sheets[sheet];
        if (row.isNothing()) {
            return NULL;
        }
        int had = row.length;
        row.become(Sheet.NOTHING, 0);
        return had;
    }

    public int item(int sheet, int lane, int i, long v) {
        if (!isFrom0(sheet, SHEETS) || !isFrom0(lane, LANES)) {
            return BAD;
        }
        Sheet row = sheets[sheet];
        int refused = row.refusal(lane);
        if (refused != 0) {
            return refused;
        }
        if (!row.has(i, 1)) {
            return INDEX;
        }
        row.put(i, v);
        return 1;
    }

    public int copy(int from, int i, int to, int j, int n) {
        if (!isFrom0(from, SHEETS) || !isFrom0(to, SHEETS)) {
            return BAD;
        }
        Sheet source = sheets[from];
        Sheet target = sheets[to];
        if (source.isNothing() || target.isNothing()) {
            return NULL;
        }
        if (source.lane != target.lane) {
            return CAST;
        }
        if (!source.has(i, n) || !target.has(j, n)) {
            return INDEX;
        }
        System.arraycopy(source.items, i, target.items, j, n);
        return n;
    }

    // ---- what the calls share

    private static boolean isFrom0(int number, int bound) {
        return number >= 0 && number < bound;
    }

    private static boolean isPlace(int place) {
        return place >= 0 && place < PLACES;
    }

    private static boolean isKind(int kind) {
        return isFrom0(kind, KINDS);
    }

    private static boolean isFilmable(int kind, int from, int sheet, int lane, int n) {
        return isKind(kind) && isPlace(from) && isFrom0(sheet, SHEETS) && isFrom0(lane, LANES)
                && n >= 1 && n <= ITEMS;
    }

    private static boolean isTypeable(long w, int n) {
        if (n < 1 || n > 8) {
            return false;
        }
        for (int k = 0; k < n; k++) {
            int sign = byteOf(w, k);
            if (sign < 32 || sign > 126) {
                return false;
            }
        }
        return true;
    }

    /** Byte k of w, the lowest being 0. */
    private static int byteOf(long w, int k) {
        return (int) (w >>> (8 * k)) & 255;
    }

    private static int bitOf(int set, int element) {
        return (set >>> element) & 1;
    }

    /** A reader sets out and takes his steps, as many as told if his journey has them. */
    private void travel(int kind, int from, int steps) {
        journey.begin(road, kind, from, road.covered, road.stones);
        journey.goOn(road, steps);
    }

    /** The least set of so many places without whose stones the journey ends as told; -1: none. */
    private int struckOfSize(int kind, int from, boolean atHome, int size) {
        for (int set = 0; set < 1 << PLACES; set++) {
            if ((set & ~road.stones) != 0 || Integer.bitCount(set) != size) {
                continue;
            }
            journey.begin(road, kind, from, road.covered, road.stones & ~set);
            journey.goOn(road, MOST_STEPS);
            if ((journey.ending == Journey.AT_HOME) == atHome) {
                return set;
            }
        }
        return -1;
    }

    /** Whether the reader would leave this track if this were the snow. */
    private boolean leaves(int kind, int from, int snow, Sheet row, int i, int n) {
        journey.begin(road, kind, from, snow, road.stones);
        for (int k = 0; k < n; k++) {
            journey.goOn(road, 1);
            if (journey.steps != k + 1 || journey.place != row.itemAt(i + k)) {
                return false;
            }
        }
        return true;
    }

    /** Puts the places behind the first n steps into the trail: how many steps there are. */
    private int layTrail(int kind, int from, int n) {
        journey.begin(road, kind, from, road.covered, road.stones);
        for (int k = 0; k < n && k < ITEMS; k++) {
            journey.goOn(road, 1);
            if (journey.steps != k + 1) {
                return k;
            }
            trail[k] = journey.place;
        }
        return journey.steps;
    }

    /** Ways, stones, home and snow: all that an image keeps. */
    private static final class Road {
        static final int NO_WAY = -1;

        private final int[] lesser = new int[WAYS];
        private final int[] greater = new int[WAYS];
        /** For each two places the way's number and 1, so that 0 says: not joined. */
        private final int[] joints = new int[PLACES * PLACES];
        private final int[] sides = new int[PLACES];
        private final int[] abouts = new int[PLACES];
        private int ways;
        private int doubtful;
        private int covered;
        private int stones;
        private int goal = PLACES - 1;
        private long net;
        private long clearNet;

        boolean isWay(int way) {
            return way >= 0 && way < ways;
        }

        boolean hasRoom(boolean forDoubtful) {
            return ways < WAYS && (!forDoubtful || Integer.bitCount(doubtful) < MOST_DOUBTFUL);
        }

        boolean isJoined(int a, int b) {
            return wayBetween(a, b) != NO_WAY;
        }

        int wayBetween(int a, int b) {
            return isPlace(a) && isPlace(b) ? joints[a * PLACES + b] - 1 : NO_WAY;
        }

        int lesserOf(int way) {
            return isWay(way) ? lesser[way] : 0;
        }

        int greaterOf(int way) {
            return isWay(way) ? greater[way] : 0;
        }

        boolean hasStone(int place) {
            return bitOf(stones, place) == 1;
        }

        boolean isSide(int place, int from) {
            return isPlace(place) && sides[place] == from;
        }

        int sideOf(int place) {
            return isPlace(place) ? sides[place] : 0;
        }

        int aboutOf(int place) {
            return isPlace(place) ? abouts[place] : 0;
        }

        /** What the stone of a place tells, under a snow, to who comes from another place. */
        boolean saysOpen(int place, int from, int snow) {
            boolean isOpen = bitOf(snow, aboutOf(place)) == 0;
            return isOpen == isSide(place, from);
        }

        int join(int a, int b, boolean isDoubtful) {
            int way = ways;
            if (!isPlace(a) || !isPlace(b) || way >= WAYS) {
                return NO_WAY;
            }
            lesser[way] = a < b ? a : b;
            greater[way] = a < b ? b : a;
            joints[a * PLACES + b] = way + 1;
            joints[b * PLACES + a] = way + 1;
            net |= Net.pair(a, b);
            if (isDoubtful) {
                doubtful |= 1 << way;
            } else {
                clearNet |= Net.pair(a, b);
            }
            ways++;
            return way;
        }

        void setStone(int place, int side, int way) {
            if (isPlace(place)) {
                sides[place] = side;
                abouts[place] = way;
                stones |= 1 << place;
            }
        }

        void takeStone(int place) {
            stones &= ~(1 << place);
        }

        void clear() {
            for (int i = 0; i < joints.length; i++) {
                joints[i] = 0;
            }
            ways = 0;
            doubtful = 0;
            covered = 0;
            stones = 0;
            net = 0;
            clearNet = 0;
        }

        void become(Road other) {
            System.arraycopy(other.lesser, 0, lesser, 0, WAYS);
            System.arraycopy(other.greater, 0, greater, 0, WAYS);
            System.arraycopy(other.joints, 0, joints, 0, PLACES * PLACES);
            System.arraycopy(other.sides, 0, sides, 0, PLACES);
            System.arraycopy(other.abouts, 0, abouts, 0, PLACES);
            ways = other.ways;
            doubtful = other.doubtful;
            covered = other.covered;
            stones = other.stones;
            goal = other.goal;
            net = other.net;
            clearNet = other.clearNet;
        }

        /** What a way gives to the net. */
        long pairOf(int way) {
            return isWay(way) ? Net.pair(lesser[way], greater[way]) : 0;
        }
    }

    /** What readers of a kind make of a stone; who can't read makes nothing of it. */
    private static final class Kind {
        static final int LITERAL = 0, DOUBTER = 1, CARTER = 3;
        static final int SHUT = 0, OPEN = 1, NOTHING = 2;

        static int takes(int kind, boolean saysOpen, boolean fromSide) {
            if (kind == LITERAL || fromSide && (kind == DOUBTER || kind == CARTER)) {
                return saysOpen ? OPEN : SHUT;
            }
            if (kind == CARTER) {
                return saysOpen ? SHUT : OPEN;
            }
            return NOTHING;
        }
    }

    /** A reader under way; one row for all journeys, one after the other. */
    private static final class Journey {
        static final int AT_HOME = 0, LOST = 1, ROUND = 2, UNDER_WAY = 3;

        private final Seen seen = new Seen();
        private int kind;
        private int snow;
        private int stones;
        private int place;
        private int target;
        private int steps;
        private int ending;
        private int believedShut;
        /** The net of the ways believed open. */
        private long believedNet;

        void begin(Road road, int asKind, int from, int underSnow, int withStones) {
            kind = asKind;
            snow = underSnow;
            stones = withStones;
            place = from;
            steps = 0;
            believedShut = 0;
            believedNet = road.net;
            seen.forget();
            look(road);
        }

        /** Takes as many steps as told, or fewer if the journey ends ahead. */
        void goOn(Road road, int most) {
            for (int k = 0; k < most && ending == UNDER_WAY; k++) {
                int way = road.wayBetween(place, target);
                steps++;
                if (bitOf(snow, way) == 1) {
                    believe(road, way, Kind.SHUT);
                } else {
                    int from = place;
                    place = target;
                    believe(road, way, Kind.OPEN);
                    heed(road, from);
                }
                look(road);
            }
        }

        /** Reads the stone of the place come to, if there is one. */
        private void heed(Road road, int from) {
            if (bitOf(stones, place) == 1) {
                boolean fromSide = road.isSide(place, from);
                boolean saysOpen = road.saysOpen(place, from, snow);
                believe(road, road.aboutOf(place), Kind.takes(kind, saysOpen, fromSide));
            }
        }

        private void believe(Road road, int way, int what) {
            long pair = road.pairOf(way);
            if (what == Kind.OPEN) {
                believedShut &= ~(1 << way);
                believedNet |= pair;
            } else if (what == Kind.SHUT) {
                believedShut |= 1 << way;
                believedNet &= ~pair;
            }
        }

        /** Finds out whether the journey has ended, and else where it goes from here. */
        private void look(Road road) {
            if (place == road.goal) {
                ending = AT_HOME;
            } else if (!seen.add(place, believedShut)) {
                ending = ROUND;
            } else {
                target = Net.towards(believedNet, place, road.goal);
                ending = target < 0 ? LOST : UNDER_WAY;
            }
        }
    }

    /** Who is next to whom, as a long: bit 8a + b says that place b is next to a. */
    private static final class Net {
        static long pair(int a, int b) {
            return 1L << (a * PLACES + b) | 1L << (b * PLACES + a);
        }

        /** The place next to here from which the fewest ways lead to the goal; -1: none. */
        static int towards(long net, int here, int goal) {
            int near = byteOf(net, here);
            int ring = 1 << goal;
            int reached = ring;
            for (int ways = 0; ways < PLACES && ring != 0; ways++) {
                if ((ring & near) != 0) {
                    return leastOf(ring & near);
                }
                ring = around(net, ring) & ~reached;
                reached |= ring;
            }
            return -1;
        }

        /** The places next to any of a set of places. */
        private static int around(long net, int places) {
            int all = 0;
            for (int p = 0; p < PLACES; p++) {
                if (bitOf(places, p) == 1) {
                    all |= byteOf(net, p);
                }
            }
            return all;
        }

        private static int leastOf(int places) {
            int least = 0;
            while (least < PLACES - 1 && bitOf(places, least) == 0) {
                least++;
            }
            return least;
        }
    }

    /** What was believed at the places of a journey. */
    private static final class Seen {
        private static final int WORDS = MOST_STEPS / 64;

        private final long[] words = new long[WORDS];
        /** The words in use: few are, and only these need be emptied. */
        private final int[] used = new int[WORDS];
        private int count;

        void forget() {
            for (int k = 0; k < count && k < WORDS; k++) {
                int word = used[k];
                if (word >= 0 && word < WORDS) {
                    words[word] = 0;
                }
            }
            count = 0;
        }

        /** Whether this is new. */
        boolean add(int place, int believedShut) {
            int state = place << WAYS | believedShut;
            int word = state >>> 6;
            long bit = 1L << (state & 63);
            if (word >= WORDS || (words[word] & bit) != 0) {
                return false;
            }
            if (words[word] == 0 && count < WORDS) {
                used[count] = word;
                count++;
            }
            words[word] |= bit;
            return true;
        }
    }

    /** What has been typed, and the reading of it as a pass. */
    private static final class Tape {
        private static final int MOST_BYTES = 100;
        private static final int FIRST_FAULT = -20;
        private static final int END = -1;

        private final byte[] bytes = new byte[MOST_BYTES];
        private int length;
        private int spot;

        /** Whether there was room for n bytes of w. */
        boolean add(long w, int n) {
            if (n > MOST_BYTES - length) {
                return false;
            }
            for (int k = n - 1; k >= 0; k--) {
                bytes[length] = (byte) byteOf(w, k);
                length++;
            }
            return true;
        }

        /** Reads all into a road: 0, or the fault. */
        int parse(Road into) {
            spot = 0;
            into.clear();
            boolean isWhole = takeWays(into) && (sign() != ';' || takeStones(into)) && sign() == END;
            return isWhole ? 0 : FIRST_FAULT - spot;
        }

        private boolean takeWays(Road into) {
            for (int k = 0; k < WAYS; k++) {
                if (k > 0 && !take(',')) {
                    return true;
                }
                if (!takeWay(into)) {
                    return false;
                }
            }
            return true;
        }

        private boolean takeWay(Road into) {
            int a = digit();
            if (a < 0) {
                return false;
            }
            spot++;
            int b = digit();
            if (b < 0 || a == b || into.isJoined(a, b)) {
                return false;
            }
            spot++;
            boolean isDoubtful = into.hasRoom(true) && take('?');
            return into.join(a, b, isDoubtful) != Road.NO_WAY;
        }

        private boolean takeStones(Road into) {
            spot++;
            for (int k = 0; k < PLACES; k++) {
                if (k > 0 && !take(',')) {
                    return true;
                }
                if (!takeStone(into)) {
                    return false;
                }
            }
            return true;
        }

        private boolean takeStone(Road into) {
            int place = digit();
            if (place < 0 || into.hasStone(place)) {
                return false;
            }
            spot++;
            if (!take('<')) {
                return false;
            }
            int side = digit();
            if (!into.isJoined(place, side)) {
                return false;
            }
            spot++;
            if (!take(':')) {
                return false;
            }
            int way = sign() - 'a';
            if (!into.isWay(way)) {
                return false;
            }
            spot++;
            into.setStone(place, side, way);
            return true;
        }

        /** The next sign behind blanks, which stays; at the end END. */
        private int sign() {
            while (spot < length && bytes[spot] == ' ') {
                spot++;
            }
            return spot < length ? bytes[spot] : END;
        }

        /** The place that the next sign is; -1: none. */
        private int digit() {
            int place = sign() - '0';
            return isPlace(place) ? place : -1;
        }

        private boolean take(char wanted) {
            boolean isThere = sign() == wanted;
            if (isThere) {
                spot++;
            }
            return isThere;
        }
    }

    /** A sheet: nothing, or a row of a lane. */
    private static final class Sheet {
        static final int NOTHING = -1;
        private static final int BYTES = 0, SHORTS = 1;

        private final long[] items = new long[ITEMS];
        private int lane = NOTHING;
        private int length;

        boolean isNothing() {
            return lane == NOTHING;
        }

        /** Why this is no row of a lane; 0: it is one. */
        int refusal(int asLane) {
            if (isNothing()) {
                return NULL;
            }
            return lane == asLane ? 0 : CAST;
        }

        /** Whether there are n items from i on. */
        boolean has(int i, int n) {
            return i >= 0 && n >= 0 && i <= length && n <= length - i;
        }

        void renew(int asLane, int n) {
            become(asLane, n);
            for (int i = 0; i < ITEMS; i++) {
                items[i] = 0;
            }
        }

        void become(int asLane, int n) {
            lane = asLane;
            length = n;
        }

        long itemAt(int i) {
            return has(i, 1) ? items[i] : NONE;
        }

        void put(int i, long v) {
            if (has(i, 1)) {
                items[i] = lane == BYTES ? (byte) v : lane == SHORTS ? (short) v : v;
            }
        }
    }
}
