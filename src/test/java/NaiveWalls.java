import java.util.ArrayList;
import java.util.Arrays;
import java.util.List;

/**
 * The document once more, written as plainly as can be and without a thought of speed: each part is looked at
 * by itself, each order is tried. Shares nothing with WallWalkers, so that the two can be held against each other.
 */
final class NaiveWalls {
    static final int BAD = -1, FULL = -2, FINDING = -3, STATE = -4, SPENT = -6, NONE = -9;

    static final class Man {
        int kind, speed = 1, fuel, post, view, start;
        boolean lost, away;
        int[] posts, rests;
    }

    /** A fraction, the lower number above 0. */
    record Time(long top, long bottom) {
        boolean before(Time t) {
            return top * t.bottom < t.top * bottom;
        }

        long floor() {
            return Math.floorDiv(top, bottom);
        }

        static Time of(long top, long bottom) {
            long g = gcd(Math.abs(top), Math.abs(bottom));
            long sign = bottom < 0 ? -1 : 1;
            return new Time(sign * top / g, sign * bottom / g);
        }
    }

    /** At a time: from post a to b (a the same as b: standing), so many sixtieths of a unit from a, with a speed. */
    record Spot(int a, int b, int x, int speed, int ago) {
    }

    byte[][] rows = new byte[8][];
    int kind = 2, posts = 1;
    int[][] length = new int[16][16];
    boolean[][] broken = new boolean[16][16];
    int[] worth = new int[16];
    boolean[] base = new boolean[16];
    List<Man> men = new ArrayList<>();
    int latest, told;
    int[] found = new int[6];
    long top = 0, bottom = 1;
    int[] partFirst = new int[8], partLast = new int[8];

    NaiveWalls() {
        worth[0] = 1;
        Arrays.fill(partFirst, NONE);
        Arrays.fill(partLast, NONE);
    }

    static long gcd(long a, long b) {
        return b == 0 ? a : gcd(b, a % b);
    }

    int find(int f) {
        latest = f;
        found[f]++;
        return FINDING;
    }

    void tell(long a, long b) {
        Time t = Time.of(a, b);
        top = t.top;
        bottom = t.bottom;
    }

    boolean noRow(int r) {
        return r < 0 || r > 7;
    }

    boolean noPost(int p) {
        return p < 0 || p >= posts;
    }

    boolean noMan(int w) {
        return w < 0 || w >= men.size();
    }

    int row(int r, int n) {
        if (noRow(r) || n > 40) return BAD;
        if (n < 0) return find(5);
        rows[r] = new byte[n];
        return n;
    }

    int lay(int r, int i, int v) {
        if (noRow(r)) return BAD;
        if (rows[r] == null) return find(1);
        if (i < 0 || i >= rows[r].length) return find(2);
        int was = rows[r][i];
        rows[r][i] = (byte) v;
        return was + 1000;
    }

    int tear(int r) {
        if (noRow(r)) return BAD;
        if (rows[r] == null) return find(1);
        rows[r] = null;
        return 1;
    }

    int copy(int r, int i, int to, int j, int n) {
        if (noRow(r) || noRow(to)) return BAD;
        if (rows[r] == null || rows[to] == null) return find(1);
        if (i < 0 || j < 0 || n < 0 || (long) i + n > rows[r].length || (long) j + n > rows[to].length) return find(2);
        byte[] taken = Arrays.copyOfRange(rows[r], i, i + n);
        for (int k = 0; k < n; k++) rows[to][j + k] = taken[k];
        return 1;
    }

    int mean(int r) {
        if (noRow(r)) return BAD;
        if (rows[r] == null) return find(1);
        if (rows[r].length == 0) return find(4);
        int sum = 0;
        for (byte b : rows[r]) sum += b;
        return sum / rows[r].length;
    }

    void clearGround(int k, int p) {
        kind = k;
        posts = p;
        length = new int[16][16];
        broken = new boolean[16][16];
        Arrays.fill(worth, 1);
        Arrays.fill(base, false);
    }

    int fence(int r, boolean ring) {
        if (noRow(r)) return BAD;
        if (rows[r] == null) return find(1);
        int n = rows[r].length;
        if (ring ? n < 3 || n > 16 : n < 1 || n > 15) return find(5);
        for (byte b : rows[r]) if (b < 1 || b > 30) return find(5);
        clearGround(ring ? 1 : 0, ring ? n : n + 1);
        for (int i = 0; i < n; i++) {
            int j = (i + 1) % posts;
            length[i][j] = length[j][i] = rows[r][i];
        }
        return posts;
    }

    int net(int p) {
        if (p < 1 || p > 16) return BAD;
        clearGround(2, p);
        return p;
    }

    int wall(int a, int b, int l) {
        if (noPost(a) || noPost(b) || a == b || l < 1 || l > 30 || length[a][b] > 0) return BAD;
        if (count(2) >= 40) return FULL;
        if (kind != 2) return find(3);
        length[a][b] = length[b][a] = l;
        return count(2);
    }

    int breaks(int a, int b, boolean is) {
        if (noPost(a) || noPost(b)) return BAD;
        if (length[a][b] == 0) return find(1);
        boolean was = broken[a][b];
        broken[a][b] = broken[b][a] = is;
        return was ? 1 : 0;
    }

    /** Bellman and Ford: as many times as there are posts, each wall once. */
    int far(int a, int b) {
        if (noPost(a) || noPost(b)) return BAD;
        int[] way = new int[posts];
        Arrays.fill(way, 99999);
        way[a] = 0;
        for (int k = 0; k < posts; k++) {
            for (int i = 0; i < posts; i++) {
                for (int j = 0; j < posts; j++) {
                    if (length[i][j] > 0 && !broken[i][j]) way[j] = Math.min(way[j], way[i] + length[i][j]);
                }
            }
        }
        return way[b] >= 99999 ? NONE : way[b];
    }

    int worth(int p, int w) {
        if (noPost(p) || w < 0 || w > 9) return BAD;
        int was = worth[p];
        worth[p] = w;
        return was;
    }

    int base(int p, boolean is) {
        if (noPost(p)) return BAD;
        boolean was = base[p];
        base[p] = is;
        return was ? 1 : 0;
    }

    int walker(int k, int a, int b) {
        if (k < 0 || k > 3) return BAD;
        if ((k == 1 || k == 2) && (a < 1 || a > 6)) return BAD;
        if (k == 2 && (b < 1 || b > 500)) return BAD;
        if (k == 3 && noPost(a)) return BAD;
        if (men.size() == 8) return FULL;
        Man m = new Man();
        m.kind = k;
        if (k == 1 || k == 2) m.speed = a;
        if (k == 2) m.fuel = b;
        if (k == 3) m.post = a;
        men.add(m);
        return men.size() - 1;
    }

    int home(int w) {
        if (noMan(w)) return BAD;
        if (men.get(w).away) return find(1);
        men.get(w).away = true;
        return 1;
    }

    int view(int w, int r) {
        if (noMan(w) || r < 0 || r > 40) return BAD;
        Man m = men.get(w);
        if (m.away) return find(1);
        int was = m.view;
        m.view = r;
        return was;
    }

    int lose(int w, boolean is) {
        if (noMan(w)) return BAD;
        Man m = men.get(w);
        if (m.away) return find(1);
        boolean was = m.lost;
        m.lost = is;
        return was ? 1 : 0;
    }

    int told(int w, int what) {
        if (noMan(w) || what < 0 || what > 6) return BAD;
        Man m = men.get(w);
        if (m.away) return find(1);
        if (what == 0) return m.kind;
        if (what == 1) return m.kind == 3 ? 0 : 60 / m.speed;
        if (what == 2) return m.view;
        if (what == 3) return m.lost ? 1 : 0;
        if (what == 4) return m.posts == null ? 0 : m.posts.length;
        if (what == 5) return goes(m) ? 1 : 0;
        return goes(m) ? period(m) : NONE;
    }

    int mark(int w, int k) {
        if (noMan(w) || k < 0 || k > 3) return BAD;
        Man m = men.get(w);
        if (m.away) return find(1);
        if (k == 0) return m.posts == null ? NONE : m.start;
        if (k == 1 && (m.kind == 1 || m.kind == 2)) return m.speed;
        if (k == 2 && m.kind == 2) return m.fuel;
        if (k == 3 && m.kind == 3) return m.post;
        return find(3);
    }

    int plan(int w, int row, int rests, int start) {
        if (noMan(w) || noRow(row) || (rests != NONE && noRow(rests)) || start < 0 || start > 14399) return BAD;
        Man m = men.get(w);
        if (m.away || rows[row] == null || (rests != NONE && rows[rests] == null)) return find(1);
        if (m.kind == 3) return find(3);
        int n = rows[row].length;
        if (n < 2 || n > 24) return find(5);
        for (int i = 0; i < n; i++) {
            if (rows[row][i] < 0 || rows[row][i] > 15 || rows[row][i] == rows[row][(i + 1) % n]) return find(2);
        }
        m.posts = new int[n];
        m.rests = new int[n];
        m.start = start;
        for (int i = 0; i < n; i++) {
            m.posts[i] = rows[row][i];
            if (rests != NONE && i < rows[rests].length && rows[rests][i] > 0) m.rests[i] = rows[rests][i];
        }
        return n;
    }

    int unplan(int w) {
        if (noMan(w)) return BAD;
        Man m = men.get(w);
        if (m.away) return find(1);
        int had = m.posts == null ? 0 : m.posts.length;
        m.posts = null;
        return had;
    }

    int planned(int w, int i, boolean rests) {
        if (noMan(w)) return BAD;
        Man m = men.get(w);
        if (m.away) return find(1);
        if (m.posts == null || i < 0 || i >= m.posts.length) return find(2);
        return rests ? m.rests[i] : m.posts[i];
    }

    int fault(Man m, boolean asRider) {
        if (m.posts == null) return 1;
        int n = m.posts.length;
        for (int p : m.posts) if (noPost(p)) return 2;
        for (int i = 0; i < n; i++) if (length[m.posts[i]][m.posts[(i + 1) % n]] == 0) return 3;
        for (int i = 0; i < n; i++) if (broken[m.posts[i]][m.posts[(i + 1) % n]]) return 4;
        if (!asRider) return 0;
        int need = need(m);
        if (need == NONE) return 5;
        return need > m.fuel ? 6 : 0;
    }

    /** From each base on to the next one. */
    int need(Man m) {
        int n = m.posts.length;
        int most = NONE;
        for (int i = 0; i < n; i++) {
            if (!base[m.posts[i]]) continue;
            int sum = 0;
            int k = i;
            do {
                sum += length[m.posts[k % n]][m.posts[(k + 1) % n]];
                k++;
            } while (!base[m.posts[k % n]]);
            most = Math.max(most, sum);
        }
        return most;
    }

    int fit(int w) {
        if (noMan(w)) return BAD;
        Man m = men.get(w);
        if (m.away) return find(1);
        return fault(m, m.kind == 2);
    }

    boolean goes(Man m) {
        if (m.lost || m.away) return false;
        return m.kind == 3 ? !noPost(m.post) : fault(m, m.kind == 2) == 0;
    }

    int period(Man m) {
        if (m.kind == 3) return 1;
        int sum = 0;
        for (int i = 0; i < m.posts.length; i++) {
            sum += m.rests[i] + 60 / m.speed * length[m.posts[i]][m.posts[(i + 1) % m.posts.length]];
        }
        return sum;
    }

    /** Walks from the start on until so many parts are over; what comes is told with the part that begins then. */
    Spot spot(Man m, long time) {
        if (m.kind == 3) return new Spot(m.post, m.post, 0, 0, 0);
        int period = period(m);
        int left = (int) Math.floorMod(time - m.start, (long) period);
        int n = m.posts.length;
        for (int i = 0; ; i = (i + 1) % n) {
            int here = m.posts[i];
            int next = m.posts[(i + 1) % n];
            if (left < m.rests[i]) return new Spot(here, here, 0, 0, 0);
            left -= m.rests[i];
            int walk = 60 / m.speed * length[here][next];
            if (left < walk) return new Spot(here, next, left * m.speed, m.speed, left);
            left -= walk;
        }
    }

    int where(int w, int time, int what) {
        if (noMan(w) || time < 0 || time > 100000 || what < 0 || what > 2) return BAD;
        Man m = men.get(w);
        if (m.away) return find(1);
        if (!goes(m)) return STATE;
        Spot s = spot(m, time);
        if (what == 0) return s.a;
        if (what == 1) return s.ago == 0 ? s.a : s.b;
        return s.ago;
    }

    List<Man> goers() {
        List<Man> list = new ArrayList<>();
        for (Man m : men) if (goes(m)) list.add(m);
        return list;
    }

    int joint(List<Man> set) {
        long joint = 1;
        for (Man m : set) {
            joint = joint / gcd(joint, period(m)) * period(m);
            if (joint > 14400) return SPENT;
        }
        return (int) joint;
    }

    int joint() {
        return joint(goers());
    }

    int seenBy(List<Man> set, int[][] fars, int time) {
        int seen = 0;
        for (Man m : set) {
            Spot s = spot(m, time);
            if (s.ago != 0) continue;
            for (int p = 0; p < posts; p++) {
                if (fars[s.a][p] >= 0 && fars[s.a][p] <= m.view) seen |= 1 << p;
            }
        }
        return seen;
    }

    int[][] fars() {
        int[][] f = new int[posts][posts];
        for (int a = 0; a < posts; a++) for (int b = 0; b < posts; b++) f[a][b] = far(a, b);
        return f;
    }

    int seen(int time) {
        if (time < 0 || time > 100000) return BAD;
        if (joint() < 0) return SPENT;
        told = seenBy(goers(), fars(), time);
        return Integer.bitCount(told);
    }

    int[] seenTable(List<Man> set) {
        int[] table = new int[joint(set)];
        int[][] fars = fars();
        for (int t = 0; t < table.length; t++) table[t] = seenBy(set, fars, t);
        return table;
    }

    /** From each part on: in how many parts the post is not seen; null: it never is. */
    static int[] unseenFrom(int[] table, int p) {
        int j = table.length;
        int[] run = new int[2 * j + 1];
        for (int t = 2 * j - 1; t >= 0; t--) run[t] = (table[t % j] >> p & 1) != 0 ? 0 : run[t + 1] + 1;
        return run[0] >= 2 * j ? null : Arrays.copyOf(run, j);
    }

    static int idle(int[] table, int p) {
        int[] run = unseenFrom(table, p);
        return run == null ? NONE : Arrays.stream(run).max().getAsInt();
    }

    int idle(int p) {
        if (noPost(p)) return BAD;
        if (joint() < 0) return SPENT;
        return idle(seenTable(goers()), p);
    }

    int idleFrom(int p) {
        if (noPost(p)) return BAD;
        if (joint() < 0) return SPENT;
        int[] table = seenTable(goers());
        int[] run = unseenFrom(table, p);
        int idle = idle(table, p);
        if (run == null || idle == 0) return NONE;
        for (int t = 0; ; t++) if (run[t] == idle) return t;
    }

    /** Post and load; the post NONE: none has a worth; the load NONE: never seen. */
    int[] worst(int[] table) {
        int post = NONE;
        int load = -1;
        for (int p = 0; p < posts; p++) {
            if (worth[p] == 0) continue;
            int idle = idle(table, p);
            if (idle == NONE) return new int[] {p, NONE};
            if (idle * worth[p] > load) {
                load = idle * worth[p];
                post = p;
            }
        }
        return new int[] {post, load};
    }

    int worst() {
        if (joint() < 0) return SPENT;
        int[] w = worst(seenTable(goers()));
        if (w[0] >= 0) told = w[1];
        return w[0];
    }

    int share(int p) {
        if (noPost(p)) return BAD;
        if (joint() < 0) return SPENT;
        int[] table = seenTable(goers());
        int many = 0;
        for (int t : table) many += t >> p & 1;
        tell(many, table.length);
        return 1;
    }

    static int begins(int[] table, int p, int n) {
        int[] run = unseenFrom(table, p);
        if (run == null) return table.length;
        int many = 0;
        for (int r : run) many += r >= n ? 1 : 0;
        return many;
    }

    int chance(int p, int n) {
        if (noPost(p) || n < 1 || n > 14400) return BAD;
        if (joint() < 0) return SPENT;
        int[] table = seenTable(goers());
        tell(begins(table, p, n), table.length);
        return 1;
    }

    int thief(int n) {
        if (n < 1 || n > 14400) return BAD;
        if (joint() < 0) return SPENT;
        int[] table = seenTable(goers());
        int best = 0;
        int post = NONE;
        for (int p = 0; p < posts; p++) {
            int gain = worth[p] * begins(table, p, n);
            if (gain > best) {
                best = gain;
                post = p;
            }
        }
        if (post >= 0) tell(best, table.length);
        return post;
    }

    int safe() {
        if (joint() < 0) return SPENT;
        int[] table = seenTable(goers());
        int most = 0;
        for (int p = 0; p < posts; p++) {
            if (worth[p] == 0) continue;
            int idle = idle(table, p);
            if (idle == NONE) return NONE;
            most = Math.max(most, idle);
        }
        return most;
    }

    int peril(int k) {
        if (k < 0 || k > 3) return BAD;
        int go = 0;
        for (int w = 0; w < men.size(); w++) go |= goes(men.get(w)) ? 1 << w : 0;
        int many = Math.min(k, Integer.bitCount(go));
        boolean any = false;
        for (int p = 0; p < posts; p++) any |= worth[p] > 0;
        int best = -1;
        int bestSet = 0;
        int blind = -1;
        for (int set = 0; set < 256; set++) {
            if ((set & go) != set || Integer.bitCount(set) != many) continue;
            List<Man> rest = new ArrayList<>();
            for (int w = 0; w < men.size(); w++) if (((go & ~set) >> w & 1) != 0) rest.add(men.get(w));
            if (joint(rest) < 0) return SPENT;
            int load = any ? worst(seenTable(rest))[1] : 0;
            if (load == NONE && blind < 0) blind = set;
            if (load > best) {
                best = load;
                bestSet = set;
            }
        }
        told = blind >= 0 ? blind : bestSet;
        return blind >= 0 ? NONE : best;
    }

    /** Looks at the parts one behind the other: in each of them both go straight on. */
    Time meet(Man one, Man two, Time from) {
        int joint = joint(List.of(one, two));
        long first = from.floor();
        for (long t = first; t <= first + joint + 1; t++) {
            Spot a = spot(one, t);
            Spot b = spot(two, t);
            // at the very time t, if that is not before the time asked for
            boolean asked = from.top <= t * from.bottom;
            if (asked && a.ago == 0 && b.ago == 0 && a.a == b.a) return Time.of(t, 1);
            Time inside = inside(a, b, t, from);
            if (inside != null) return inside;
        }
        return null;
    }

    /** The first time from t to t + 1, not before the one asked for, at which both are at one place. */
    Time inside(Spot a, Spot b, long t, Time from) {
        Time least = from.top <= t * from.bottom ? Time.of(t, 1) : from;
        if (a.speed == 0 && b.speed == 0) return a.a == b.a ? least : null;
        if (a.speed == 0 || b.speed == 0) return null;
        boolean sameWall = Math.min(a.a, a.b) == Math.min(b.a, b.b) && Math.max(a.a, a.b) == Math.max(b.a, b.b);
        if (!sameWall) return null;
        int l = 60 * length[a.a][a.b];
        // both told from the lesser post of the wall on
        long xa = a.a < a.b ? a.x : l - a.x;
        long va = a.a < a.b ? a.speed : -a.speed;
        long xb = b.a < b.b ? b.x : l - b.x;
        long vb = b.a < b.b ? b.speed : -b.speed;
        if (va == vb) return xa == xb ? least : null;
        // xa + va s = xb + vb s
        Time s = Time.of(xb - xa, va - vb);
        Time when = Time.of(s.top + t * s.bottom, s.bottom);
        boolean inPart = when.top >= t * when.bottom && when.top < (t + 1) * when.bottom;
        return inPart && !when.before(from) ? when : null;
    }

    int meet(int a, int b, int from) {
        if (noMan(a) || noMan(b) || a == b || from < 0 || from > 14399) return BAD;
        Man one = men.get(a);
        Man two = men.get(b);
        if (one.away || two.away) return find(1);
        if (!goes(one) || !goes(two)) return STATE;
        if (joint(List.of(one, two)) < 0) return SPENT;
        Time t = meet(one, two, Time.of(from, 1));
        if (t == null) return NONE;
        tell(t.top, t.bottom);
        return 1;
    }

    boolean pairSpent() {
        List<Man> go = goers();
        for (Man a : go) for (Man b : go) if (a != b && joint(List.of(a, b)) < 0) return true;
        return false;
    }

    Time[] words(int a, int from) {
        Time[] has = new Time[men.size()];
        has[a] = Time.of(from, 1);
        boolean changed = true;
        while (changed) {
            changed = false;
            for (int i = 0; i < has.length; i++) {
                for (int j = 0; j < has.length; j++) {
                    if (i == j || has[i] == null || !goes(men.get(i)) || !goes(men.get(j))) continue;
                    Time t = meet(men.get(i), men.get(j), has[i]);
                    if (t != null && (has[j] == null || t.before(has[j]))) {
                        has[j] = t;
                        changed = true;
                    }
                }
            }
        }
        return has;
    }

    int word(int a, int from, int b) {
        if (noMan(a) || noMan(b) || from < 0 || from > 14399) return BAD;
        if (men.get(a).away || men.get(b).away) return find(1);
        if (!goes(men.get(a)) || !goes(men.get(b))) return STATE;
        if (pairSpent()) return SPENT;
        Time t = words(a, from)[b];
        if (t == null) return NONE;
        tell(t.top, t.bottom);
        return 1;
    }

    int spread(int a, int from) {
        if (noMan(a) || from < 0 || from > 14399) return BAD;
        if (men.get(a).away) return find(1);
        if (!goes(men.get(a))) return STATE;
        if (pairSpent()) return SPENT;
        int many = 0;
        for (Time t : words(a, from)) many += t != null ? 1 : 0;
        return many;
    }

    /** Tries all orders, the first ones first. */
    final class Rounds {
        int[][] fars = fars();
        List<Integer> stops = new ArrayList<>();
        List<Integer> best = null;
        int least = 1 << 20;

        Rounds() {
            for (int p = 0; p < posts; p++) if (worth[p] > 0) stops.add(p);
            if (stops.size() > 10 || stops.isEmpty()) return;
            List<Integer> way = new ArrayList<>();
            way.add(stops.get(0));
            go(way, 0);
        }

        void go(List<Integer> way, int sum) {
            int last = way.get(way.size() - 1);
            if (way.size() == stops.size()) {
                int all = fars[last][stops.get(0)] < 0 ? 1 << 20 : sum + fars[last][stops.get(0)];
                if (all < least) {
                    least = all;
                    best = new ArrayList<>(way);
                }
                return;
            }
            for (int next : stops) {
                if (way.contains(next) || fars[last][next] < 0 || sum + fars[last][next] >= least) continue;
                way.add(next);
                go(way, sum + fars[last][next]);
                way.remove(way.size() - 1);
            }
        }
    }

    int round() {
        Rounds r = new Rounds();
        if (r.stops.size() > 10) return STATE;
        if (r.stops.size() < 2) return 0;
        return r.best == null ? NONE : r.least;
    }

    int roundAt(int i) {
        Rounds r = new Rounds();
        if (r.stops.size() > 10) return STATE;
        return r.best == null || i < 0 || i >= r.best.size() ? NONE : r.best.get(i);
    }

    /** Tries all ways to give posts to walkers, those first that give the first posts to the least ones. */
    final class Partings {
        List<Integer> who = new ArrayList<>();
        int[] owner = new int[16];
        int[] best = null;
        int least = 1 << 20;

        Partings() {
            for (int w = 0; w < men.size() && who.size() < 5; w++) {
                Man m = men.get(w);
                if (!m.away && !m.lost && m.kind != 3) who.add(w);
            }
            go(0, 0, 0);
        }

        void go(int p, int units, int longest) {
            if (longest >= least) return;
            if (p == posts) {
                least = longest;
                best = owner.clone();
                return;
            }
            for (int w : who) {
                boolean same = p > 0 && owner[p - 1] == w;
                boolean used = false;
                for (int q = 0; q < p; q++) used |= owner[q] == w;
                if (used && !same || same && broken[p - 1][p]) continue;
                int u = same ? units + length[p - 1][p] : 0;
                owner[p] = w;
                go(p + 1, u, Math.max(longest, 2 * 60 / men.get(w).speed * u));
            }
        }
    }

    int parting() {
        if (kind != 0) return find(3);
        Partings all = new Partings();
        if (all.best == null) return STATE;
        Arrays.fill(partFirst, NONE);
        Arrays.fill(partLast, NONE);
        for (int p = 0; p < posts; p++) {
            int w = all.best[p];
            if (partFirst[w] < 0) partFirst[w] = p;
            partLast[w] = p;
        }
        return all.least;
    }

    int partOf(int w, boolean last) {
        if (w < 0 || w > 7) return BAD;
        return last ? partLast[w] : partFirst[w];
    }

    int fuel(int w) {
        if (noMan(w)) return BAD;
        Man m = men.get(w);
        if (m.away) return find(1);
        if (fault(m, false) != 0) return STATE;
        return need(m);
    }

    int count(int what) {
        int many = 0;
        if (what == 0) return kind;
        if (what == 1) return posts;
        if (what == 2 || what == 3) {
            for (int a = 0; a < posts; a++) {
                for (int b = a + 1; b < posts; b++) {
                    if (length[a][b] > 0 && (what == 2 || broken[a][b])) many++;
                }
            }
            return many;
        }
        if (what == 4) return men.size();
        if (what == 5) return goers().size();
        if (what != 6) return BAD;
        for (byte[] r : rows) many += r != null ? 1 : 0;
        return many;
    }

    int findings(int f) {
        return f < 1 || f > 5 ? BAD : found[f];
    }

    long digest() {
        List<Integer> v = new ArrayList<>();
        for (int what = 0; what < 7; what++) v.add(count(what));
        for (int a = 0; a < posts; a++) {
            for (int b = a + 1; b < posts; b++) v.add(broken[a][b] ? -length[a][b] : length[a][b]);
        }
        for (int p = 0; p < posts; p++) v.add(worth[p] + (base[p] ? 10 : 0));
        for (int w = 0; w < men.size(); w++) {
            Man m = men.get(w);
            if (m.away) {
                v.add(-1);
                continue;
            }
            for (int what = 0; what < 7; what++) v.add(told(w, what));
            v.add(m.posts == null ? NONE : m.start);
            if (m.posts == null) continue;
            for (int p : m.posts) v.add(p);
            for (int r : m.rests) v.add(r);
        }
        for (byte[] r : rows) {
            v.add(r == null ? -1 : r.length);
            if (r != null) for (byte b : r) v.add((int) b);
        }
        long h = 17;
        for (int x : v) h = 31 * h + x;
        return h;
    }
}
