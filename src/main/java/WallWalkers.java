/** Walls watched by walkers: what is seen of them and when, where walkers meet, and the best ways to go. */
public final class WallWalkers {
    public static final int BAD = -1, FULL = -2, FINDING = -3, STATE = -4, SPENT = -6, NONE = -9;

    private static final int NOTHING = 1, BEYOND = 2, UNLIKE = 3, NOUGHT = 4, SIZE = 5;
    private static final int WALKER = 0, RUNNER = 1, RIDER = 2, GUARD = 3;
    private static final int FENCE_KIND = 0, RING_KIND = 1, NET_KIND = 2;
    private static final int ROWS = 8, ROW_BYTES = 40;
    private static final int POSTS = 16, WALLS = 40, LENGTH = 30, WORTH = 9;
    private static final int WALKERS = 8, SPEED = 6, FUEL = 500, VIEW = 40;
    private static final int LEGS = 24, UNIT = 60, LATEST = 100000;
    private static final int JOINT = 14400;
    private static final int STOPS = 10, SHARERS = 5, LOSSES = 3;

    private final Tally tally = new Tally();
    private final Shelf shelf = new Shelf();
    private final Ground ground = new Ground();
    private final Crew crew = new Crew(ground);
    private final Watch watch = new Watch(crew);
    private final Meetings meetings = new Meetings(crew);
    private final Tour tour = new Tour(ground);
    private final Sharing sharing = new Sharing(ground, crew);

    public WallWalkers() {
    }

    // ---- 1 rows, the ground

    public int row(int r, int n) {
        if (!isRow(r) || n > ROW_BYTES) {
            return BAD;
        }
        if (n < 0) {
            return tally.found(SIZE);
        }
        shelf.put(r, n);
        return n;
    }

    public int lay(int r, int i, int v) {
        if (!isRow(r)) {
            return BAD;
        }
        if (shelf.lacks(r)) {
            return tally.found(NOTHING);
        }
        if (i < 0 || i >= shelf.sizeOf(r)) {
            return tally.found(BEYOND);
        }
        int was = shelf.byteAt(r, i);
        shelf.write(r, i, v);
        return was + 1000;
    }

    public int tear(int r) {
        if (!isRow(r)) {
            return BAD;
        }
        if (shelf.lacks(r)) {
            return tally.found(NOTHING);
        }
        shelf.remove(r);
        return 1;
    }

    public int copy(int r, int i, int to, int j, int n) {
        if (!isRow(r) || !isRow(to)) {
            return BAD;
        }
        if (shelf.lacks(r) || shelf.lacks(to)) {
            return tally.found(NOTHING);
        }
        if (!shelf.holds(r, i, n) || !shelf.holds(to, j, n)) {
            return tally.found(BEYOND);
        }
        shelf.move(r, i, to, j, n);
        return 1;
    }

    public int mean(int r) {
        if (!isRow(r)) {
            return BAD;
        }
        if (shelf.lacks(r)) {
            return tally.found(NOTHING);
        }
        int size = shelf.sizeOf(r);
        if (size < 1) {
            return tally.found(NOUGHT);
        }
        return shelf.sumOf(r) / size;
    }

    public int fence(int r, boolean ring) {
        if (!isRow(r)) {
            return BAD;
        }
        if (shelf.lacks(r)) {
            return tally.found(NOTHING);
        }
        int size = shelf.sizeOf(r);
        int least = ring ? 3 : 1;
        int most = ring ? POSTS : POSTS - 1;
        if (size < least || size > most || !shelf.allWithin(r, 1, LENGTH)) {
            return tally.found(SIZE);
        }
        ground.begin(ring ? RING_KIND : FENCE_KIND, ring ? size : size + 1);
        for (int i = 0; i < size; i++) {
            ground.build(i, i + 1 < ground.posts ? i + 1 : 0, shelf.byteAt(r, i));
        }
        return ground.posts;
    }

    public int net(int p) {
        if (p < 1 || p > POSTS) {
            return BAD;
        }
        ground.begin(NET_KIND, p);
        return p;
    }

    public int wall(int a, int b, int length) {
        if (!ground.has(a) || !ground.has(b) || a == b || length < 1 || length > LENGTH
                || ground.lengthOf(a, b) != 0) {
            return BAD;
        }
        if (ground.walls >= WALLS) {
            return FULL;
        }
        if (ground.kind != NET_KIND) {
            return tally.found(UNLIKE);
        }
        ground.build(a, b, length);
        return ground.walls;
    }

    public int breaks(int a, int b, boolean is) {
        if (!ground.has(a) || !ground.has(b)) {
            return BAD;
        }
        int length = ground.lengthOf(a, b);
        if (length == 0) {
            return tally.found(NOTHING);
        }
        boolean was = length < 0;
        if (was != is) {
            ground.turnBroken(a, b);
        }
        return was ? 1 : 0;
    }

    public int far(int a, int b) {
        if (!ground.has(a) || !ground.has(b)) {
            return BAD;
        }
        ground.measure();
        return ground.farOf(a, b);
    }

    public int worth(int p, int w) {
        if (!ground.has(p) || w < 0 || w > WORTH) {
            return BAD;
        }
        return ground.changeWorth(p, w);
    }

    public int base(int p, boolean is) {
        if (!ground.has(p)) {
            return BAD;
        }
        return ground.changeBase(p, is) ? 1 : 0;
    }

    // ---- 2 walkers, plans

    public int walker(int kind, int a, int b) {
        if (!isWalkerAsTold(kind, a, b)) {
            return BAD;
        }
        if (crew.made >= WALKERS) {
            return FULL;
        }
        return crew.add(kind, a, b);
    }

    public int home(int w) {
        if (!crew.has(w)) {
            return BAD;
        }
        if (crew.lacks(w)) {
            return tally.found(NOTHING);
        }
        crew.changing(w).away = true;
        return 1;
    }

    public int view(int w, int r) {
        if (!crew.has(w) || r < 0 || r > VIEW) {
            return BAD;
        }
        if (crew.lacks(w)) {
            return tally.found(NOTHING);
        }
        Walker walker = crew.changing(w);
        int was = walker.reach;
        walker.reach = r;
        return was;
    }

    public int lose(int w, boolean is) {
        if (!crew.has(w)) {
            return BAD;
        }
        if (crew.lacks(w)) {
            return tally.found(NOTHING);
        }
        Walker walker = crew.changing(w);
        boolean was = walker.lost;
        walker.lost = is;
        return was ? 1 : 0;
    }

    public int told(int w, int what) {
        if (!crew.has(w) || what < 0 || what > 6) {
            return BAD;
        }
        if (crew.lacks(w)) {
            return tally.found(NOTHING);
        }
        crew.refresh();
        return crew.tell(w, what);
    }

    public int mark(int w, int kind) {
        if (!crew.has(w) || kind < WALKER || kind > GUARD) {
            return BAD;
        }
        if (crew.lacks(w)) {
            return tally.found(NOTHING);
        }
        Walker walker = crew.get(w);
        if (!walker.isOf(kind)) {
            return tally.found(UNLIKE);
        }
        return walker.markOf(kind);
    }

    public int plan(int w, int row, int rests, int start) {
        boolean resting = rests != NONE;
        if (!crew.has(w) || !isRow(row) || (resting && !isRow(rests)) || start < 0 || start >= JOINT) {
            return BAD;
        }
        if (crew.lacks(w) || shelf.lacks(row) || (resting && shelf.lacks(rests))) {
            return tally.found(NOTHING);
        }
        if (crew.get(w).kind == GUARD) {
            return tally.found(UNLIKE);
        }
        int size = shelf.sizeOf(row);
        if (size < 2 || size > LEGS) {
            return tally.found(SIZE);
        }
        if (!shelf.allWithin(row, 0, POSTS - 1) || shelf.hasTwins(row)) {
            return tally.found(BEYOND);
        }
        writePlan(crew.changing(w), row, rests, start);
        return size;
    }

    public int unplan(int w) {
        if (!crew.has(w)) {
            return BAD;
        }
        if (crew.lacks(w)) {
            return tally.found(NOTHING);
        }
        Walker walker = crew.changing(w);
        int had = walker.legs;
        walker.legs = 0;
        return had;
    }

    public int planned(int w, int i, boolean rests) {
        if (!crew.has(w)) {
            return BAD;
        }
        if (crew.lacks(w)) {
            return tally.found(NOTHING);
        }
        Walker walker = crew.get(w);
        if (i < 0 || i >= walker.legs) {
            return tally.found(BEYOND);
        }
        return rests ? walker.rests[i] : walker.posts[i];
    }

    public int fit(int w) {
        if (!crew.has(w)) {
            return BAD;
        }
        if (crew.lacks(w)) {
            return tally.found(NOTHING);
        }
        return crew.get(w).faultOn(ground);
    }

    public int where(int w, int time, int what) {
        if (!crew.has(w) || !isTime(time) || what < 0 || what > 2) {
            return BAD;
        }
        if (crew.lacks(w)) {
            return tally.found(NOTHING);
        }
        crew.refresh();
        if (!crew.goes(w)) {
            return STATE;
        }
        return crew.get(w).placeAt(time, what);
    }

    // ---- 3 what is seen

    public int joint() {
        crew.refresh();
        return crew.jointOf(crew.going);
    }

    public int seen(int time) {
        if (!isTime(time)) {
            return BAD;
        }
        if (joint() < 1) {
            return SPENT;
        }
        tally.asked = crew.seenAt(time);
        return Integer.bitCount(tally.asked);
    }

    public int idle(int p) {
        int refused = watchPost(p, 1);
        return refused < 0 ? refused : watch.idleOf(p);
    }

    public int idleFrom(int p) {
        int refused = watchPost(p, 1);
        return refused < 0 ? refused : watch.idleStartOf(p);
    }

    public int worst() {
        if (joint() < 1) {
            return SPENT;
        }
        watch.look(crew.going, ground.worthy(), 1);
        int post = watch.worstPost();
        if (post >= 0) {
            tally.asked = watch.loadOf(post);
        }
        return post;
    }

    public int share(int p) {
        int refused = watchPost(p, 1);
        if (refused < 0) {
            return refused;
        }
        tally.tellFraction(watch.joint - watch.unseenOf(p), watch.joint);
        return 1;
    }

    public int chance(int p, int n) {
        if (!isNeed(n)) {
            return BAD;
        }
        int refused = watchPost(p, n);
        if (refused < 0) {
            return refused;
        }
        tally.tellFraction(watch.openingsOf(p), watch.joint);
        return 1;
    }

    public int thief(int n) {
        if (!isNeed(n)) {
            return BAD;
        }
        if (joint() < 1) {
            return SPENT;
        }
        watch.look(crew.going, ground.worthy(), n);
        int post = watch.bestForThief();
        if (post >= 0) {
            tally.tellFraction(watch.lureOf(post), watch.joint);
        }
        return post;
    }

    public int safe() {
        if (joint() < 1) {
            return SPENT;
        }
        watch.look(crew.going, ground.worthy(), 1);
        return watch.longestIdle();
    }

    public int peril(int k) {
        if (k < 0 || k > LOSSES) {
            return BAD;
        }
        crew.refresh();
        int goers = crew.going;
        int many = Math.min(k, Integer.bitCount(goers));
        if (isSpentWithAny(goers, many)) {
            return SPENT;
        }
        int blind = firstBlindSet(goers, many);
        if (blind >= 0) {
            tally.asked = blind;
            return NONE;
        }
        return tellGreatestLoad(goers, many);
    }

    // ---- 4 meetings, words

    public int meet(int a, int b, int from) {
        if (!crew.has(a) || !crew.has(b) || a == b || !isStart(from)) {
            return BAD;
        }
        if (crew.lacks(a) || crew.lacks(b)) {
            return tally.found(NOTHING);
        }
        crew.refresh();
        if (!crew.goes(a) || !crew.goes(b)) {
            return STATE;
        }
        if (crew.jointOf(1 << a | 1 << b) < 1) {
            return SPENT;
        }
        return tellTime(meetings.firstOf(a, b, from * Meetings.GRAINS));
    }

    public int word(int a, int from, int b) {
        if (!crew.has(a) || !crew.has(b) || !isStart(from)) {
            return BAD;
        }
        if (crew.lacks(a) || crew.lacks(b)) {
            return tally.found(NOTHING);
        }
        crew.refresh();
        if (!crew.goes(a) || !crew.goes(b)) {
            return STATE;
        }
        if (crew.isAnyPairSpent()) {
            return SPENT;
        }
        meetings.pass(a, from * Meetings.GRAINS, 1 << b);
        return tellTime(meetings.wordAt(b));
    }

    public int spread(int a, int from) {
        if (!crew.has(a) || !isStart(from)) {
            return BAD;
        }
        if (crew.lacks(a)) {
            return tally.found(NOTHING);
        }
        crew.refresh();
        if (!crew.goes(a)) {
            return STATE;
        }
        if (crew.isAnyPairSpent()) {
            return SPENT;
        }
        return Integer.bitCount(meetings.pass(a, from * Meetings.GRAINS, 0));
    }

    // ---- 5 rounds, partings

    public int round() {
        if (Integer.bitCount(ground.worthy()) > STOPS) {
            return STATE;
        }
        tour.refresh();
        return tour.length;
    }

    public int roundAt(int i) {
        if (Integer.bitCount(ground.worthy()) > STOPS) {
            return STATE;
        }
        tour.refresh();
        return tour.stopAt(i);
    }

    public int parting() {
        if (ground.kind != FENCE_KIND) {
            return tally.found(UNLIKE);
        }
        return sharing.settle();
    }

    public int partOf(int w, boolean last) {
        if (w < 0 || w >= WALKERS) {
            return BAD;
        }
        return last ? sharing.lasts[w] : sharing.firsts[w];
    }

    public int fuel(int w) {
        if (!crew.has(w)) {
            return BAD;
        }
        if (crew.lacks(w)) {
            return tally.found(NOTHING);
        }
        Walker walker = crew.get(w);
        int fault = walker.faultOn(ground);
        if (fault >= Walker.NO_PLAN && fault <= Walker.BROKEN_WALL) {
            return STATE;
        }
        return walker.longestRide(ground);
    }

    // ---- 6 what is told

    public int asked() {
        return tally.asked;
    }

    public long upper() {
        return tally.top;
    }

    public long lower() {
        return tally.bottom;
    }

    public int count(int what) {
        switch (what) {
            case 0: return ground.kind;
            case 1: return ground.posts;
            case 2: return ground.walls;
            case 3: return ground.broken;
            case 4: return crew.made;
            case 5:
                crew.refresh();
                return Integer.bitCount(crew.going);
            case 6: return shelf.present();
            default: return BAD;
        }
    }

    public int finding() {
        return tally.latest;
    }

    public int findings(int f) {
        return f < NOTHING || f > SIZE ? BAD : tally.answered[f];
    }

    public long digest() {
        long h = 17;
        for (int what = 0; what <= 6; what++) {
            h = 31 * h + count(what);
        }
        return shelf.mixInto(crew.mixInto(ground.mixInto(h)));
    }

    // ---- what the calls share

    private static boolean isRow(int r) {
        return r >= 0 && r < ROWS;
    }

    private static boolean isTime(int time) {
        return time >= 0 && time <= LATEST;
    }

    private static boolean isStart(int time) {
        return time >= 0 && time < JOINT;
    }

    private static boolean isNeed(int n) {
        return n >= 1 && n <= JOINT;
    }

    private boolean isWalkerAsTold(int kind, int a, int b) {
        switch (kind) {
            case WALKER: return true;
            case RUNNER: return a >= 1 && a <= SPEED;
            case RIDER: return a >= 1 && a <= SPEED && b >= 1 && b <= FUEL;
            case GUARD: return ground.has(a);
            default: return false;
        }
    }

    private void writePlan(Walker walker, int row, int rests, int start) {
        walker.legs = Math.min(shelf.sizeOf(row), LEGS);
        walker.start = start;
        int given = rests == NONE ? 0 : shelf.sizeOf(rests);
        for (int i = 0; i < walker.legs; i++) {
            walker.posts[i] = shelf.byteAt(row, i);
            walker.rests[i] = i < given ? Math.max(0, shelf.byteAt(rests, i)) : 0;
        }
    }

    /** Looks at one post for all that go: 0, or why that is refused. */
    private int watchPost(int p, int need) {
        if (!ground.has(p)) {
            return BAD;
        }
        crew.refresh();
        if (crew.jointOf(crew.going) < 1) {
            return SPENT;
        }
        watch.look(crew.going, 1 << p, need);
        return 0;
    }

    private static boolean isLoss(int set, int goers, int many) {
        return (set & ~goers) == 0 && Integer.bitCount(set) == many;
    }

    private boolean isSpentWithAny(int goers, int many) {
        for (int set = 0; set <= goers; set++) {
            if (isLoss(set, goers, many) && crew.jointOf(goers & ~set) < 1) {
                return true;
            }
        }
        return false;
    }

    private int firstBlindSet(int goers, int many) {
        int worthy = ground.worthy();
        for (int set = 0; set <= goers; set++) {
            if (isLoss(set, goers, many) && (worthy & ~crew.everSeen(goers & ~set)) != 0) {
                return set;
            }
        }
        return NONE;
    }

    private int tellGreatestLoad(int goers, int many) {
        int worthy = ground.worthy();
        int greatest = -1;
        for (int set = 0; set <= goers; set++) {
            if (!isLoss(set, goers, many)) {
                continue;
            }
            watch.look(goers & ~set, worthy, 1);
            int post = watch.worstPost();
            int load = post < 0 ? 0 : watch.loadOf(post);
            if (load > greatest) {
                greatest = load;
                tally.asked = set;
            }
        }
        return greatest;
    }

    private int tellTime(long grains) {
        if (grains == Meetings.NEVER) {
            return NONE;
        }
        tally.tellFraction(grains, Meetings.GRAINS);
        return 1;
    }

    private static long gcd(long a, long b) {
        long x = a;
        long y = b;
        for (int step = 0; step < 200 && y != 0; step++) {
            long rest = x % y;
            x = y;
            y = rest;
        }
        return x;
    }

    /** What was told beside the answers themselves. */
    private static final class Tally {
        final int[] answered = new int[SIZE + 1];
        int latest = 0;
        int asked = 0;
        long top = 0;
        long bottom = 1;

        int found(int f) {
            latest = f;
            answered[f]++;
            return FINDING;
        }

        void tellFraction(long a, long b) {
            long common = gcd(a, b);
            if (common > 0) {
                top = a / common;
                bottom = b / common;
            }
        }
    }

    /** The rows of bytes. */
    private static final class Shelf {
        private static final int LACKING = -1;
        private final byte[] bytes = new byte[ROWS * ROW_BYTES];
        private final int[] sizes = new int[ROWS];

        Shelf() {
            for (int r = 0; r < ROWS; r++) {
                sizes[r] = LACKING;
            }
        }

        boolean lacks(int r) {
            return sizes[r] == LACKING;
        }

        int sizeOf(int r) {
            return sizes[r];
        }

        int byteAt(int r, int i) {
            return bytes[r * ROW_BYTES + i];
        }

        void write(int r, int i, int v) {
            bytes[r * ROW_BYTES + i] = (byte) v;
        }

        void put(int r, int n) {
            sizes[r] = n;
            for (int i = 0; i < n; i++) {
                write(r, i, 0);
            }
        }

        void remove(int r) {
            sizes[r] = LACKING;
        }

        /** Whether n bytes stand from place i on; the difference can't overflow as the sum could. */
        boolean holds(int r, int i, int n) {
            return i >= 0 && n >= 0 && i <= sizes[r] && n <= sizes[r] - i;
        }

        void move(int r, int i, int to, int j, int n) {
            System.arraycopy(bytes, r * ROW_BYTES + i, bytes, to * ROW_BYTES + j, n);
        }

        int sumOf(int r) {
            int sum = 0;
            for (int i = 0; i < sizes[r]; i++) {
                sum += byteAt(r, i);
            }
            return sum;
        }

        boolean allWithin(int r, int least, int most) {
            for (int i = 0; i < sizes[r]; i++) {
                if (byteAt(r, i) < least || byteAt(r, i) > most) {
                    return false;
                }
            }
            return true;
        }

        /** Whether two bytes one behind the other are alike, the first behind the last too. */
        boolean hasTwins(int r) {
            for (int i = 0; i < sizes[r]; i++) {
                int next = i + 1 < sizes[r] ? i + 1 : 0;
                if (byteAt(r, i) == byteAt(r, next)) {
                    return true;
                }
            }
            return false;
        }

        int present() {
            int many = 0;
            for (int r = 0; r < ROWS; r++) {
                many += lacks(r) ? 0 : 1;
            }
            return many;
        }

        long mixInto(long before) {
            long h = before;
            for (int r = 0; r < ROWS; r++) {
                h = 31 * h + sizes[r];
                for (int i = 0; i < sizes[r]; i++) {
                    h = 31 * h + byteAt(r, i);
                }
            }
            return h;
        }
    }

    /** The posts and the walls between them. */
    private static final class Ground {
        private static final int APART = 1000000;
        int kind = NET_KIND;
        int posts = 1;
        int walls = 0;
        int broken = 0;
        /** Grows with each change, so that those who keep something of the ground know when it is old. */
        int version = 0;
        private final int[] lengths = new int[POSTS * POSTS];
        private final int[] worths = new int[POSTS];
        private final boolean[] bases = new boolean[POSTS];
        private final int[] fars = new int[POSTS * POSTS];
        private boolean farsOld = true;

        Ground() {
            worths[0] = 1;
        }

        void begin(int newKind, int newPosts) {
            kind = newKind;
            posts = newPosts;
            walls = 0;
            broken = 0;
            for (int i = 0; i < POSTS * POSTS; i++) {
                lengths[i] = 0;
            }
            for (int p = 0; p < POSTS; p++) {
                worths[p] = 1;
                bases[p] = false;
            }
            wallsChanged();
        }

        private void wallsChanged() {
            farsOld = true;
            version++;
        }

        boolean has(int p) {
            return p >= 0 && p < posts;
        }

        /** The length of a wall; 0: there is none; below 0: it is broken. */
        int lengthOf(int a, int b) {
            return lengths[a * POSTS + b];
        }

        private void setLength(int a, int b, int length) {
            lengths[a * POSTS + b] = length;
            lengths[b * POSTS + a] = length;
            wallsChanged();
        }

        void build(int a, int b, int length) {
            setLength(a, b, length);
            walls++;
        }

        void turnBroken(int a, int b) {
            int length = lengthOf(a, b);
            broken += length > 0 ? 1 : -1;
            setLength(a, b, -length);
        }

        int changeWorth(int p, int w) {
            int was = worths[p];
            worths[p] = w;
            version++;
            return was;
        }

        boolean changeBase(int p, boolean is) {
            boolean was = bases[p];
            bases[p] = is;
            version++;
            return was;
        }

        int worthOf(int p) {
            return worths[p];
        }

        boolean isBase(int p) {
            return bases[p];
        }

        int worthy() {
            int set = 0;
            for (int p = 0; p < posts; p++) {
                set |= worths[p] > 0 ? 1 << p : 0;
            }
            return set;
        }

        /** How far it is from post to post, as it was when it was last measured; NONE: no way leads there. */
        int farOf(int a, int b) {
            int way = fars[a * POSTS + b];
            return way < APART ? way : NONE;
        }

        void measure() {
            if (!farsOld) {
                return;
            }
            for (int a = 0; a < posts; a++) {
                for (int b = 0; b < posts; b++) {
                    int length = lengthOf(a, b);
                    fars[a * POSTS + b] = a == b ? 0 : length > 0 ? length : APART;
                }
            }
            for (int by = 0; by < posts; by++) {
                for (int a = 0; a < posts; a++) {
                    if (a != by && fars[a * POSTS + by] < APART) {
                        shortenBy(by, a);
                    }
                }
            }
            farsOld = false;
        }

        private void shortenBy(int by, int a) {
            int start = fars[a * POSTS + by];
            for (int b = 0; b < posts; b++) {
                int way = start + fars[by * POSTS + b];
                if (way < fars[a * POSTS + b]) {
                    fars[a * POSTS + b] = way;
                }
            }
        }

        /** The posts that are seen from a post with a view. */
        int within(int post, int view) {
            // every wall has a length of 1 at least, so that no view shows only the post itself
            if (view < 1) {
                return 1 << post;
            }
            int set = 0;
            for (int p = 0; p < posts; p++) {
                int way = farOf(post, p);
                set |= way >= 0 && way <= view ? 1 << p : 0;
            }
            return set;
        }

        long mixInto(long before) {
            long h = before;
            for (int a = 0; a < posts; a++) {
                for (int b = a + 1; b < posts; b++) {
                    h = 31 * h + lengthOf(a, b);
                }
            }
            for (int p = 0; p < posts; p++) {
                h = 31 * h + worths[p] + (bases[p] ? 10 : 0);
            }
            return h;
        }
    }

    /** One walker with its plan, and what follows of both on the ground as it is. */
    private static final class Walker {
        static final int NO_PLAN = 1, NO_POST = 2, NO_WALL = 3, BROKEN_WALL = 4, NO_BASE = 5, NO_FUEL = 6;
        int kind = WALKER;
        int speed = 1;
        int tank = 0;
        int post = 0;
        int reach = 0;
        boolean lost = false;
        boolean away = false;
        int start = 0;
        int legs = 0;
        final int[] posts = new int[LEGS];
        final int[] rests = new int[LEGS];
        boolean going = false;
        int period = 1;
        int everSeen = 0;
        /** When it comes to a post and leaves it, from the start on; one more than the last: once round. */
        final int[] comes = new int[LEGS + 1];
        final int[] leaves = new int[LEGS];
        final int[] sights = new int[LEGS];

        boolean isOf(int asked) {
            return asked == WALKER || kind == asked || (asked == RUNNER && kind == RIDER);
        }

        int markOf(int asked) {
            switch (asked) {
                case RUNNER: return speed;
                case RIDER: return tank;
                case GUARD: return post;
                default: return legs > 0 ? start : NONE;
            }
        }

        int unitParts() {
            return kind == GUARD || speed < 1 ? 0 : UNIT / speed;
        }

        int legBehind(int i) {
            return i + 1 < legs ? i + 1 : 0;
        }

        /** Why its plan is not fit; 0: it is. */
        int faultOn(Ground ground) {
            if (legs < 1) {
                return NO_PLAN;
            }
            for (int i = 0; i < legs; i++) {
                if (!ground.has(posts[i])) {
                    return NO_POST;
                }
            }
            boolean broken = false;
            for (int i = 0; i < legs; i++) {
                int length = ground.lengthOf(posts[i], posts[legBehind(i)]);
                if (length == 0) {
                    return NO_WALL;
                }
                broken |= length < 0;
            }
            if (broken) {
                return BROKEN_WALL;
            }
            return kind == RIDER ? rideFault(longestRide(ground)) : 0;
        }

        private int rideFault(int ride) {
            if (ride == NONE) {
                return NO_BASE;
            }
            return ride > tank ? NO_FUEL : 0;
        }

        /** The most units from base to next base, round; NONE: its plan has no base. All its walls must be there. */
        int longestRide(Ground ground) {
            int first = 0;
            while (first < legs && !ground.isBase(posts[first])) {
                first++;
            }
            if (first >= legs) {
                return NONE;
            }
            int most = 0;
            int ridden = 0;
            int at = first;
            for (int step = 0; step < legs; step++) {
                int next = legBehind(at);
                ridden += ground.lengthOf(posts[at], posts[next]);
                if (ground.isBase(posts[next])) {
                    most = Math.max(most, ridden);
                    ridden = 0;
                }
                at = next;
            }
            return most;
        }

        /** Works out whether it goes, when it is where, and what it sees. */
        void prepare(Ground ground) {
            everSeen = 0;
            period = 1;
            if (lost || away) {
                going = false;
            } else if (kind == GUARD) {
                going = ground.has(post);
                everSeen = going ? ground.within(post, reach) : 0;
            } else {
                going = faultOn(ground) == 0;
                if (going) {
                    prepareLegs(ground);
                }
            }
        }

        private void prepareLegs(Ground ground) {
            int time = 0;
            int unit = unitParts();
            for (int i = 0; i < legs; i++) {
                comes[i] = time;
                leaves[i] = time + rests[i];
                time = leaves[i] + unit * ground.lengthOf(posts[i], posts[legBehind(i)]);
                sights[i] = ground.within(posts[i], reach);
                everSeen |= sights[i];
            }
            comes[legs] = time;
            period = Math.max(1, time);
        }

        /** How far into its round it is at a time. */
        int phaseAt(int time) {
            return Math.floorMod(time - start, period);
        }

        /** The leg, a rest with the walk behind it, to which a phase belongs. */
        int legAt(int phase) {
            int leg = 0;
            while (leg + 1 < legs && comes[leg + 1] <= phase) {
                leg++;
            }
            return leg;
        }

        int placeAt(int time, int what) {
            if (kind == GUARD) {
                return what == 2 ? 0 : post;
            }
            int phase = phaseAt(time);
            int leg = legAt(phase);
            boolean resting = phase <= leaves[leg];
            switch (what) {
                case 0: return posts[leg];
                case 1: return resting ? posts[leg] : posts[legBehind(leg)];
                default: return resting ? 0 : phase - leaves[leg];
            }
        }

        int seenAt(int time) {
            if (kind == GUARD) {
                return everSeen;
            }
            int phase = phaseAt(time);
            int leg = legAt(phase);
            return phase <= leaves[leg] ? sights[leg] : 0;
        }

        long mixPlanInto(long before) {
            long h = 31 * before + markOf(WALKER);
            for (int i = 0; i < legs; i++) {
                h = 31 * h + posts[i];
            }
            for (int i = 0; i < legs; i++) {
                h = 31 * h + rests[i];
            }
            return h;
        }
    }

    /** All walkers ever, with what follows of them on the ground kept until either changes. */
    private static final class Crew {
        final Ground ground;
        int made = 0;
        /** Those that go, as a set. */
        int going = 0;
        private final Walker[] walkers = new Walker[WALKERS];
        private boolean old = true;
        private int groundVersion = 0;

        Crew(Ground ground) {
            this.ground = ground;
            for (int w = 0; w < WALKERS; w++) {
                walkers[w] = new Walker();
            }
        }

        boolean has(int w) {
            return w >= 0 && w < made;
        }

        boolean lacks(int w) {
            return walkers[w].away;
        }

        Walker get(int w) {
            return walkers[w];
        }

        /** A walker that is about to be changed. */
        Walker changing(int w) {
            old = true;
            return walkers[w];
        }

        int add(int kind, int a, int b) {
            int w = made;
            made++;
            Walker walker = changing(w);
            walker.kind = kind;
            walker.speed = kind == RUNNER || kind == RIDER ? a : 1;
            walker.tank = kind == RIDER ? b : 0;
            walker.post = kind == GUARD ? a : 0;
            return w;
        }

        /** Works out anew what follows of walkers and ground, if either has changed. */
        void refresh() {
            if (!old && groundVersion == ground.version) {
                return;
            }
            ground.measure();
            going = 0;
            for (int w = 0; w < made; w++) {
                walkers[w].prepare(ground);
                going |= walkers[w].going ? 1 << w : 0;
            }
            old = false;
            groundVersion = ground.version;
        }

        boolean goes(int w) {
            return (going >> w & 1) != 0;
        }

        /** The least common multiple of the periods of a set that goes; SPENT: it is too great. */
        int jointOf(int set) {
            int joint = 1;
            for (int w = 0; w < made; w++) {
                if ((set >> w & 1) == 0) {
                    continue;
                }
                int period = walkers[w].period;
                int common = (int) gcd(joint, period);
                if (common < 1 || period > JOINT) {
                    return SPENT;
                }
                joint = joint / common * period;
                if (joint > JOINT) {
                    return SPENT;
                }
            }
            return joint;
        }

        boolean isAnyPairSpent() {
            for (int a = 0; a < made; a++) {
                for (int b = a + 1; b < made; b++) {
                    int pair = 1 << a | 1 << b;
                    if ((going & pair) == pair && jointOf(pair) < 1) {
                        return true;
                    }
                }
            }
            return false;
        }

        int everSeen(int set) {
            int posts = 0;
            for (int w = 0; w < made; w++) {
                posts |= (set >> w & 1) != 0 ? walkers[w].everSeen : 0;
            }
            return posts;
        }

        int seenAt(int time) {
            int posts = 0;
            for (int w = 0; w < made; w++) {
                posts |= goes(w) ? walkers[w].seenAt(time) : 0;
            }
            return posts;
        }

        int tell(int w, int what) {
            Walker walker = walkers[w];
            switch (what) {
                case 0: return walker.kind;
                case 1: return walker.unitParts();
                case 2: return walker.reach;
                case 3: return walker.lost ? 1 : 0;
                case 4: return walker.legs;
                case 5: return goes(w) ? 1 : 0;
                default: return goes(w) ? walker.period : NONE;
            }
        }

        long mixInto(long before) {
            long h = before;
            for (int w = 0; w < made; w++) {
                if (lacks(w)) {
                    h = 31 * h - 1;
                    continue;
                }
                for (int what = 0; what <= 6; what++) {
                    h = 31 * h + tell(w, what);
                }
                h = walkers[w].mixPlanInto(h);
            }
            return h;
        }
    }

    /**
     * What is seen of some posts over all that comes round: the visits of all walkers are gone through in the
     * order of their times, so that only what lies between two of them is looked at, not each part.
     */
    private static final class Watch {
        private static final int UNMET = -1;
        /** Visits of one walker lie 10 parts apart at least. */
        private static final int MOST_VISITS = WALKERS * JOINT / 10 + WALKERS;
        int joint = 1;
        private final Crew crew;
        private final int[] longest = new int[POSTS];
        private final int[] longestFrom = new int[POSTS];
        private final int[] unseen = new int[POSTS];
        private final int[] openings = new int[POSTS];
        /** The part from which on a post is not seen, as far as is known. */
        private final int[] covered = new int[POSTS];
        private final int[] firstSeen = new int[POSTS];
        private final int[] riders = new int[WALKERS];
        private final int[] nextLeg = new int[WALKERS];
        private final int[] nextTime = new int[WALKERS];
        private int riding = 0;
        private int looked = 0;
        private int swept = 0;
        private int never = 0;
        private int need = 1;

        Watch(Crew crew) {
            this.crew = crew;
        }

        /** Looks at posts as a set of walkers sees them, whose joint is not spent, for a thief who needs some parts. */
        void look(int goers, int posts, int parts) {
            joint = Math.max(1, crew.jointOf(goers));
            need = parts;
            looked = posts;
            never = posts & ~crew.everSeen(goers);
            swept = posts & ~never & ~alwaysSeen(goers);
            clear();
            enlist(goers);
            sweep();
            closeRound();
        }

        private int alwaysSeen(int goers) {
            int posts = 0;
            for (int w = 0; w < crew.made; w++) {
                Walker walker = crew.get(w);
                posts |= (goers >> w & 1) != 0 && walker.kind == GUARD ? walker.everSeen : 0;
            }
            return posts;
        }

        private void clear() {
            for (int p = 0; p < POSTS; p++) {
                boolean blind = (never >> p & 1) != 0;
                longest[p] = 0;
                longestFrom[p] = NONE;
                unseen[p] = blind ? joint : 0;
                openings[p] = blind ? joint : 0;
                covered[p] = UNMET;
                firstSeen[p] = UNMET;
            }
        }

        private void enlist(int goers) {
            riding = 0;
            for (int w = 0; w < crew.made; w++) {
                Walker walker = crew.get(w);
                if ((goers >> w & 1) != 0 && walker.kind != GUARD && (walker.everSeen & swept) != 0) {
                    setOut(riding, w, walker);
                    riding++;
                }
            }
        }

        /** Finds the first visit that begins with time 0 or later, and notes the one that goes on then. */
        private void setOut(int k, int w, Walker walker) {
            int phase = walker.phaseAt(0);
            int leg = walker.legAt(phase);
            riders[k] = w;
            if (walker.comes[leg] == phase) {
                nextLeg[k] = leg;
                nextTime[k] = 0;
                return;
            }
            nextLeg[k] = walker.legBehind(leg);
            nextTime[k] = walker.comes[leg + 1] - phase;
            if (phase <= walker.leaves[leg]) {
                coverAhead(walker.sights[leg] & swept, walker.leaves[leg] - phase + 1);
            }
        }

        private void coverAhead(int posts, int till) {
            for (int p = 0; p < POSTS; p++) {
                if ((posts >> p & 1) != 0) {
                    covered[p] = Math.max(covered[p], till);
                }
            }
        }

        private void sweep() {
            for (int visit = 0; visit < MOST_VISITS && riding > 0; visit++) {
                int k = earliest();
                int time = nextTime[k];
                if (time >= joint) {
                    return;
                }
                Walker walker = crew.get(riders[k]);
                int leg = nextLeg[k];
                see(walker.sights[leg] & swept, time, time + walker.rests[leg] + 1);
                nextTime[k] = time + walker.comes[leg + 1] - walker.comes[leg];
                nextLeg[k] = walker.legBehind(leg);
            }
        }

        private int earliest() {
            int best = 0;
            for (int k = 1; k < riding; k++) {
                if (nextTime[k] < nextTime[best]) {
                    best = k;
                }
            }
            return best;
        }

        private void see(int posts, int from, int till) {
            int left = posts;
            for (int p = 0; p < POSTS && left != 0; p++) {
                if ((left & 1) != 0) {
                    seeOne(p, from, till);
                }
                left >>= 1;
            }
        }

        private void seeOne(int p, int from, int till) {
            if (covered[p] == UNMET) {
                firstSeen[p] = from;
            } else if (from > covered[p]) {
                noteGap(p, covered[p], from - covered[p]);
            }
            covered[p] = Math.max(covered[p], till);
        }

        private void noteGap(int p, int from, int length) {
            unseen[p] += length;
            openings[p] += length < need ? 0 : length - need + 1;
            if (length > longest[p] || (length == longest[p] && from < longestFrom[p])) {
                longest[p] = length;
                longestFrom[p] = from;
            }
        }

        /** What lies behind a post's last visit goes on until its first one, a round later. */
        private void closeRound() {
            for (int p = 0; p < POSTS; p++) {
                if (firstSeen[p] == UNMET) {
                    continue;
                }
                int length = firstSeen[p] + joint - covered[p];
                if (length > 0) {
                    noteGap(p, covered[p] < joint ? covered[p] : 0, length);
                }
            }
        }

        int idleOf(int p) {
            return (never >> p & 1) != 0 ? NONE : longest[p];
        }

        int idleStartOf(int p) {
            return longestFrom[p];
        }

        int unseenOf(int p) {
            return unseen[p];
        }

        int openingsOf(int p) {
            return openings[p];
        }

        int loadOf(int p) {
            int idle = idleOf(p);
            return idle < 0 ? NONE : idle * crew.ground.worthOf(p);
        }

        int lureOf(int p) {
            return openings[p] * crew.ground.worthOf(p);
        }

        int worstPost() {
            if (never != 0) {
                return Integer.numberOfTrailingZeros(never);
            }
            int worst = NONE;
            int greatest = -1;
            for (int p = 0; p < POSTS; p++) {
                if ((looked >> p & 1) != 0 && loadOf(p) > greatest) {
                    worst = p;
                    greatest = loadOf(p);
                }
            }
            return worst;
        }

        int bestForThief() {
            int best = NONE;
            int greatest = 0;
            for (int p = 0; p < POSTS; p++) {
                if ((looked >> p & 1) != 0 && lureOf(p) > greatest) {
                    best = p;
                    greatest = lureOf(p);
                }
            }
            return best;
        }

        int longestIdle() {
            if (never != 0) {
                return NONE;
            }
            int most = 0;
            for (int p = 0; p < POSTS; p++) {
                most = Math.max(most, (looked >> p & 1) != 0 ? longest[p] : 0);
            }
            return most;
        }
    }

    /** A walker on its way: the leg on which it is, with times as they are, not from its start on. */
    private static final class Stride {
        private static final long FOREVER = 1L << 40;
        private Walker walker;
        private int leg = 0;
        private long roundFrom = 0;
        int here = 0;
        int next = 0;
        int speed = 0;
        long comes = 0;
        long leaves = 0;
        long ends = 0;

        Stride(Walker who) {
            walker = who;
        }

        void set(Walker who, long grains) {
            walker = who;
            if (who.kind == GUARD) {
                stand(who.post);
                return;
            }
            long into = Math.floorMod(grains - who.start * Meetings.GRAINS, who.period * Meetings.GRAINS);
            roundFrom = (grains - into) / Meetings.GRAINS;
            leg = who.legAt((int) (into / Meetings.GRAINS));
            speed = who.speed;
            read();
        }

        private void stand(int post) {
            here = post;
            next = post;
            speed = 0;
            comes = -FOREVER;
            leaves = FOREVER;
            ends = FOREVER;
        }

        private void read() {
            here = walker.posts[leg];
            next = walker.posts[walker.legBehind(leg)];
            comes = roundFrom + walker.comes[leg];
            leaves = roundFrom + walker.leaves[leg];
            ends = roundFrom + walker.comes[leg + 1];
        }

        void goOn() {
            if (walker.kind == GUARD) {
                return;
            }
            leg = walker.legBehind(leg);
            if (leg == 0) {
                roundFrom += walker.period;
            }
            read();
        }
    }

    /** Where walkers meet, and how a word goes among them. */
    private static final class Meetings {
        /** Two speeds from 1 to 6 have a sum or difference from 1 to 12: each divides this, so times in grains are whole. */
        static final long GRAINS = 27720;
        static final long NEVER = -1;
        /** Legs of either take 10 parts at least. */
        private static final int MOST_LEGS = 2 * (JOINT / 10) + 100;
        private final Crew crew;
        private final Stride one;
        private final Stride other;
        private final long[] words = new long[WALKERS];

        Meetings(Crew crew) {
            this.crew = crew;
            one = new Stride(crew.get(0));
            other = new Stride(crew.get(0));
        }

        /** The first time from one on, both in grains, at which two that go are at one place. */
        long firstOf(int a, int b, long from) {
            int joint = crew.jointOf(1 << a | 1 << b);
            long till = from + joint * GRAINS;
            one.set(crew.get(a), from);
            other.set(crew.get(b), from);
            for (int leg = 0; leg < MOST_LEGS; leg++) {
                long begins = Math.max(from, Math.max(one.comes, other.comes) * GRAINS);
                if (begins > till) {
                    return NEVER;
                }
                long time = together(begins);
                if (time != NEVER) {
                    return time;
                }
                long ends = Math.min(one.ends, other.ends);
                if (ends >= Stride.FOREVER) {
                    return NEVER;
                }
                if (one.ends <= ends) {
                    one.goOn();
                }
                if (other.ends <= ends) {
                    other.goOn();
                }
            }
            return NEVER;
        }

        /** The first time at which both are at one place while neither comes to its next post. */
        private long together(long begins) {
            if (one.here == other.here && begins <= Math.min(one.leaves, other.leaves) * GRAINS) {
                return begins;
            }
            long from = Math.max(begins, Math.max(one.leaves, other.leaves) * GRAINS);
            long till = Math.min(one.ends, other.ends) * GRAINS;
            if (from >= till) {
                return NEVER;
            }
            if (one.here == other.here && one.next == other.next) {
                return sameWay(from, till);
            }
            if (one.here == other.next && one.next == other.here) {
                return towards(from, till);
            }
            return NEVER;
        }

        private long sameWay(long from, long till) {
            long faster = one.speed - other.speed;
            if (faster == 0) {
                return one.leaves == other.leaves ? from : NEVER;
            }
            long time = (one.speed * one.leaves - other.speed * other.leaves) * (GRAINS / faster);
            return time >= from && time < till ? time : NEVER;
        }

        private long towards(long from, long till) {
            long both = one.speed + other.speed;
            if (both < 1) {
                return NEVER;
            }
            long way = one.speed * (one.ends - one.leaves);
            long time = (way + one.speed * one.leaves + other.speed * other.leaves) * (GRAINS / both);
            return time >= from && time < till ? time : NEVER;
        }

        /** Passes a word on from one who has it, until all have it who can or one asked for has: who has it. */
        int pass(int a, long from, int askedFor) {
            for (int w = 0; w < WALKERS; w++) {
                words[w] = NEVER;
            }
            words[a] = from;
            int waiting = crew.going;
            int having = 0;
            for (int step = 0; step < WALKERS && (having & askedFor) == 0; step++) {
                int next = earliest(waiting);
                if (next < 0) {
                    break;
                }
                waiting &= ~(1 << next);
                having |= 1 << next;
                tellOthers(next, waiting);
            }
            return having;
        }

        private int earliest(int waiting) {
            int best = NONE;
            for (int w = 0; w < WALKERS; w++) {
                if ((waiting >> w & 1) != 0 && words[w] != NEVER && (best < 0 || words[w] < words[best])) {
                    best = w;
                }
            }
            return best;
        }

        private void tellOthers(int teller, int waiting) {
            for (int w = 0; w < WALKERS; w++) {
                if ((waiting >> w & 1) == 0) {
                    continue;
                }
                long time = firstOf(teller, w, words[teller]);
                if (time != NEVER && (words[w] == NEVER || time < words[w])) {
                    words[w] = time;
                }
            }
        }

        long wordAt(int w) {
            return words[w];
        }
    }

    /** The shortest round over all posts with a worth. */
    private static final class Tour {
        private static final int OTHERS = STOPS - 1;
        private static final int UNKNOWN = 1000000;
        int length = 0;
        private final Ground ground;
        private final int[] stops = new int[STOPS];
        private final int[] order = new int[STOPS];
        /** The least way from one of the other stops over those not in a set and back to the first stop. */
        private final int[] homeward = new int[(1 << OTHERS) * OTHERS];
        private int many = 0;
        private int groundVersion = -1;

        Tour(Ground ground) {
            this.ground = ground;
        }

        int stopAt(int i) {
            return i < 0 || i >= many || length == NONE ? NONE : order[i];
        }

        /** Works out the round anew, if the ground has changed. */
        void refresh() {
            if (groundVersion == ground.version) {
                return;
            }
            groundVersion = ground.version;
            ground.measure();
            gatherStops();
            if (many < 2) {
                length = 0;
                order[0] = stops[0];
            } else if (isParted()) {
                length = NONE;
            } else {
                workHomeward();
                follow();
            }
        }

        private void gatherStops() {
            many = 0;
            for (int p = 0; p < ground.posts; p++) {
                if (ground.worthOf(p) > 0 && many < STOPS) {
                    stops[many] = p;
                    many++;
                }
            }
        }

        private boolean isParted() {
            for (int i = 1; i < many; i++) {
                if (way(0, i) < 0) {
                    return true;
                }
            }
            return false;
        }

        private int way(int i, int j) {
            return ground.farOf(stops[i], stops[j]);
        }

        /** Stop i + 1 is bit i of a set: the first stop is in none. */
        private void workHomeward() {
            int full = (1 << many - 1) - 1;
            for (int set = full; set > 0; set--) {
                for (int i = 0; i < many - 1; i++) {
                    if ((set >> i & 1) != 0) {
                        homeward[set * OTHERS + i] = set == full ? way(i + 1, 0) : bestBeyond(set, i + 1);
                    }
                }
            }
        }

        private int bestBeyond(int set, int from) {
            int best = UNKNOWN;
            for (int j = 0; j < many - 1; j++) {
                if ((set >> j & 1) == 0) {
                    best = Math.min(best, wayOver(set, from, j));
                }
            }
            return best;
        }

        private int wayOver(int set, int from, int j) {
            return way(from, j + 1) + homeward[(set | 1 << j) * OTHERS + j];
        }

        /** Goes the round, each time to the least stop from which on it can still be as short. */
        private void follow() {
            length = bestBeyond(0, 0);
            order[0] = stops[0];
            int set = 0;
            int at = 0;
            for (int step = 1; step < many; step++) {
                int next = nextStop(set, at);
                set |= 1 << next;
                at = next + 1;
                order[step] = stops[at];
            }
        }

        private int nextStop(int set, int at) {
            int best = UNKNOWN;
            int next = 0;
            for (int j = 0; j < many - 1; j++) {
                if ((set >> j & 1) == 0 && wayOver(set, at, j) < best) {
                    best = wayOver(set, at, j);
                    next = j;
                }
            }
            return next;
        }
    }

    /** The best parting of a fence. */
    private static final class Sharing {
        private static final int TOO_LONG = 1000000;
        final int[] firsts = new int[WALKERS];
        final int[] lasts = new int[WALKERS];
        private final Ground ground;
        private final Crew crew;
        private final int[] sharers = new int[SHARERS];
        /** The least longest time with which a set of sharers walks the posts from one on; one more for none left. */
        private final int[] least = new int[(1 << SHARERS) * (POSTS + 1)];
        private int many = 0;

        Sharing(Ground ground, Crew crew) {
            this.ground = ground;
            this.crew = crew;
            forget();
        }

        private void forget() {
            for (int w = 0; w < WALKERS; w++) {
                firsts[w] = NONE;
                lasts[w] = NONE;
            }
        }

        /** Parts the fence: the longest time; STATE: it can't be parted. */
        int settle() {
            gatherSharers();
            if (many < 1) {
                return STATE;
            }
            int full = (1 << many) - 1;
            for (int set = 0; set <= full; set++) {
                least[place(set, ground.posts)] = 0;
                for (int from = ground.posts - 1; from >= 0; from--) {
                    least[place(set, from)] = leastOf(set, from);
                }
            }
            int longest = least[place(full, 0)];
            if (longest >= TOO_LONG) {
                return STATE;
            }
            forget();
            dealOut(full, longest);
            return longest;
        }

        private static int place(int set, int from) {
            return set * (POSTS + 1) + from;
        }

        private void gatherSharers() {
            many = 0;
            for (int w = 0; w < crew.made && many < SHARERS; w++) {
                Walker walker = crew.get(w);
                if (!walker.away && !walker.lost && walker.kind != GUARD) {
                    sharers[many] = w;
                    many++;
                }
            }
        }

        private int leastOf(int set, int from) {
            int best = TOO_LONG;
            for (int m = 0; m < many; m++) {
                if ((set >> m & 1) != 0) {
                    best = Math.min(best, leastWith(m, set & ~(1 << m), from));
                }
            }
            return best;
        }

        /** The least longest time, if one sharer has the posts from one on and others share what is left. */
        private int leastWith(int m, int others, int from) {
            int best = TOO_LONG;
            int units = 0;
            for (int to = from; to < ground.posts; to++) {
                int wall = to > from ? ground.lengthOf(to - 1, to) : 0;
                units += wall;
                int time = timeOf(m, units);
                if (wall < 0 || time >= best) {
                    break;
                }
                best = Math.min(best, Math.max(time, least[place(others, to + 1)]));
            }
            return best;
        }

        private int timeOf(int m, int units) {
            return 2 * crew.get(sharers[m]).unitParts() * units;
        }

        /** Gives post by post to the least sharer with whom none needs longer than the longest time. */
        private void dealOut(int full, int longest) {
            int others = full;
            int owner = NONE;
            int units = 0;
            for (int p = 0; p < ground.posts; p++) {
                int wall = p > 0 ? ground.lengthOf(p - 1, p) : 0;
                int kept = wall < 0 ? -1 : units + wall;
                int next = leastOwner(owner, kept, others, p, longest);
                if (next < 0) {
                    return;
                }
                units = next == owner ? kept : 0;
                owner = next;
                others &= ~(1 << next);
                give(sharers[next], p);
            }
        }

        private void give(int w, int p) {
            if (firsts[w] == NONE) {
                firsts[w] = p;
            }
            lasts[w] = p;
        }

        private int leastOwner(int owner, int kept, int others, int p, int longest) {
            for (int m = 0; m < many; m++) {
                boolean goesOn = m == owner && kept >= 0;
                boolean begins = (others >> m & 1) != 0;
                if ((goesOn || begins) && canEnd(m, goesOn ? kept : 0, others & ~(1 << m), p, longest)) {
                    return m;
                }
            }
            return NONE;
        }

        /** Whether a sharer who has so many units up to a post can have all from there on shared in time. */
        private boolean canEnd(int m, int unitsBefore, int others, int p, int longest) {
            int units = unitsBefore;
            for (int to = p; to < ground.posts; to++) {
                int wall = to > p ? ground.lengthOf(to - 1, to) : 0;
                units += wall;
                if (wall < 0 || timeOf(m, units) > longest) {
                    return false;
                }
                if (least[place(others, to + 1)] <= longest) {
                    return true;
                }
            }
            return false;
        }
    }
}
