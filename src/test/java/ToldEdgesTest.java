/** Promises 43 to 49, sentence by sentence: what is told before anything was, what stays, and what the digest is made of. */
public final class ToldEdgesTest extends Checks {
    public static void main(String[] args) {
        asked();
        upper();
        lower();
        count();
        finding();
        findings();
        digestCounts();
        digestGround();
        digestWalkers();
        digestRows();
        end("promises 43 to 49");
    }

    /** A walker to and fro on a fence of length 1, and a guard at its end. */
    private static void two() {
        fence(1);
        x.walker(1, 6, 0);
        x.walker(3, 1, 0);
        plan(0, 0, 0, 1);
    }

    private static void asked() {
        promise(43);
        says("What the latest seen(), worst() (but NONE), peril() that was not refused told;");
        two();
        x.seen(0);
        due(3, x.asked());
        x.seen(1);
        due(2, x.asked());
        x.worst();
        due(19, x.asked());
        x.peril(0);
        due(0, x.asked());
        x.peril(1);
        due(1, x.asked());
        // what is refused, and what tells something else, leaves it
        x.seen(-1);
        x.seen(100001);
        x.peril(-1);
        x.peril(4);
        x.idle(0);
        x.share(0);
        x.chance(0, 1);
        x.thief(1);
        x.safe();
        x.meet(0, 1, 0);
        x.word(0, 0, 1);
        x.spread(0, 0);
        x.round();
        x.digest();
        due(1, x.asked());
        x.seen(0);
        due(3, x.asked());
        // a worst() that finds none leaves it, too; one that is never seen tells NONE
        x.worth(0, 0);
        x.worth(1, 0);
        due(NONE, x.worst());
        due(3, x.asked());
        x.worth(0, 1);
        x.lose(0, true);
        due(0, x.worst());
        due(NONE, x.asked());
        fence(30, 30, 30, 30);
        x.lose(0, false);
        rested(0, 0, new int[] {0, 1, 2, 3, 4, 3, 2, 1}, 1);
        x.seen(5);
        due(2, x.asked());
        x.walker(0, 0, 0);
        rested(2, 0, new int[] {0, 1, 2, 3, 4, 3, 2, 1}, 1);
        due(SPENT, x.seen(0));
        due(SPENT, x.worst());
        due(SPENT, x.peril(0));
        due(2, x.asked());
        says("0 before.");
        due(0, x.asked());
        x.worth(0, 0);
        due(NONE, x.worst());
        due(0, x.asked());
        x.seen(-1);
        x.peril(4);
        due(0, x.asked());
    }

    private static void upper() {
        promise(44);
        says("The upper number of the fraction that was told last;");
        two();
        x.share(0);
        due(1, x.upper());
        x.chance(0, 3);
        due(17, x.upper());
        due(0, x.thief(2));
        due(9, x.upper());
        x.meet(0, 1, 0);
        due(10, x.upper());
        x.word(0, 14399, 1);
        due(14410, x.upper());
        // what is refused, NONE, and what tells no fraction leaves it
        x.share(2);
        x.chance(0, 0);
        x.thief(14401);
        x.meet(0, 0, 0);
        x.word(0, 14400, 1);
        due(NONE, x.thief(20));
        x.worst();
        x.round();
        due(14410, x.upper());
        x.share(1);
        due(1, x.upper());
        x.chance(1, 1);
        due(0, x.upper());
        says("0 before.");
        due(0, x.upper());
        x.share(-1);
        due(0, x.upper());
    }

    private static void lower() {
        promise(45);
        says("Its lower number;");
        two();
        x.share(0);
        due(20, x.lower());
        x.chance(0, 4);
        due(5, x.lower());
        due(0, x.thief(2));
        due(10, x.lower());
        x.meet(0, 1, 0);
        due(1, x.lower());
        x.lose(1, true);
        x.walker(1, 1, 0);
        plan(2, 0, 1, 0);
        x.word(0, 0, 2);
        due(60, x.upper());
        due(7, x.lower());
        x.share(2);
        x.chance(0, 14401);
        x.thief(0);
        x.meet(2, 2, 0);
        x.word(0, -1, 2);
        x.joint();
        due(7, x.lower());
        x.chance(1, 14400);
        due(1, x.lower());
        says("1 before.");
        due(1, x.lower());
        x.share(-1);
        due(1, x.lower());
    }

    private static void counts(int... due) {
        for (int what = 0; what < due.length; what++) due(due[what], x.count(what));
    }

    private static void count() {
        promise(46);
        says("0 what THE GROUND is (0 FENCE, 1 RING, 2 NET), 1 POSTS, 2 WALLS, 3 those that are BROKEN,");
        counts(2, 1, 0, 0);
        fence(1);
        counts(0, 2, 1, 0);
        x.breaks(0, 1, true);
        counts(0, 2, 1, 1);
        ring(1, 1, 1);
        counts(1, 3, 3, 0);
        for (int p = 0; p < 3; p++) x.breaks(p, (p + 1) % 3, true);
        counts(1, 3, 3, 3);
        x.breaks(0, 1, true);
        counts(1, 3, 3, 3);
        x.breaks(0, 1, false);
        counts(1, 3, 3, 2);
        x.net(16);
        counts(2, 16, 0, 0);
        for (int i = 0; i < 40; i++) x.wall(i % 16, (i % 16 + 1 + i / 16) % 16, 1);
        counts(2, 16, 40, 0);
        for (int i = 0; i < 40; i++) x.breaks(i % 16, (i % 16 + 1 + i / 16) % 16, true);
        counts(2, 16, 40, 40);
        x.net(1);
        counts(2, 1, 0, 0);
        says("4 WALKERS ever, 5 those that GO, 6 ROWS that are there.");
        due(0, x.count(4));
        for (int w = 0; w < 8; w++) {
            x.walker(w < 4 ? 3 : 0, 0, 0);
            due(w + 1, x.count(4));
            due(Math.min(w + 1, 4), x.count(5));
        }
        x.home(0);
        x.lose(1, true);
        due(8, x.count(4));
        due(2, x.count(5));
        due(0, x.count(6));
        for (int r = 0; r < 8; r++) {
            x.row(r, r * 5);
            due(r + 1, x.count(6));
        }
        x.row(3, 0);
        due(8, x.count(6));
        for (int r = 7; r >= 0; r--) {
            x.tear(r);
            due(r, x.count(6));
        }
        says("BAD.");
        two();
        for (int bad : new int[] {-1, 7, MOST, LEAST}) refused(BAD, () -> x.count(bad));
    }

    private static void finding() {
        promise(47);
        says("The latest FINDING");
        due(FINDING, x.tear(0));
        due(NOTHING, x.finding());
        due(FINDING, x.row(0, -1));
        due(SIZE, x.finding());
        x.row(0, 0);
        due(FINDING, x.lay(0, 0, 0));
        due(BEYOND, x.finding());
        due(FINDING, x.parting());
        due(UNLIKE, x.finding());
        due(FINDING, x.mean(0));
        due(NOUGHT, x.finding());
        // no other refusal is a finding, nor is what is well, nor NONE
        due(BAD, x.row(0, 41));
        x.net(11);
        due(STATE, x.round());
        for (int w = 0; w < 8; w++) x.walker(0, 0, 0);
        due(FULL, x.walker(0, 0, 0));
        due(NONE, x.far(0, 1));
        due(40, x.row(0, 40));
        due(NOUGHT, x.finding());
        says("(0 before any).");
        due(0, x.finding());
        x.row(8, 0);
        x.row(0, 0);
        due(0, x.finding());
    }

    private static void findings() {
        promise(48);
        says("How often a FINDING (1 .. 5) was answered.");
        for (int f = 1; f <= 5; f++) due(0, x.findings(f));
        x.row(0, 0);
        for (int i = 0; i < 100; i++) x.tear(1);
        for (int i = 0; i < 4; i++) x.lay(0, 0, 0);
        for (int i = 0; i < 3; i++) x.parting();
        for (int i = 0; i < 2; i++) x.mean(0);
        x.row(0, -1);
        x.row(9, -1);
        x.joint();
        int[] many = {100, 4, 3, 2, 1};
        for (int f = 1; f <= 5; f++) due(many[f - 1], x.findings(f));
        due(SIZE, x.finding());
        says("BAD.");
        x.tear(0);
        for (int bad : new int[] {0, 6, -1, MOST, LEAST}) refused(BAD, () -> x.findings(bad));
    }

    private static long mix(long before, int... values) {
        long h = before;
        for (int v : values) h = 31 * h + v;
        return h;
    }

    private static void digestCounts() {
        promise(49);
        says("h = 17; then h = 31 h + v for each v: count() 0 to 6;");
        int[] rows = {-1, -1, -1, -1, -1, -1, -1, -1};
        due(mix(mix(17, 2, 1, 0, 0, 0, 0, 0, 1), rows), x.digest());
        x.worth(0, 0);
        due(mix(mix(17, 2, 1, 0, 0, 0, 0, 0, 0), rows), x.digest());
        // asking changes nothing; what was found, asked and told is no part of it
        long before = x.digest();
        x.tear(0);
        x.seen(0);
        x.share(0);
        x.parting();
        due(before, x.digest());
    }

    private static void digestGround() {
        promise(49);
        says("of each two POSTS a, b, a below b, the length of their WALL (0: none; below 0: it is BROKEN);");
        x.net(4);
        x.wall(3, 1, 30);
        x.wall(0, 2, 1);
        x.wall(0, 3, 9);
        x.breaks(1, 3, true);
        int[] rows = {-1, -1, -1, -1, -1, -1, -1, -1};
        due(mix(mix(17, 2, 4, 3, 1, 0, 0, 0, 0, 1, 9, 0, -30, 0, 1, 1, 1, 1), rows), x.digest());
        says("of each POST its WORTH, and 10 more, if it is a BASE;");
        x.net(4);
        x.worth(0, 0);
        x.worth(1, 9);
        x.worth(2, 9);
        x.base(2, true);
        x.worth(3, 0);
        x.base(3, true);
        due(mix(mix(17, 2, 4, 0, 0, 0, 0, 0, 0, 0, 0, 0, 0, 0, 0, 9, 19, 10), rows), x.digest());
        // sixteen posts, of which only those that there are count
        x.net(16);
        x.worth(15, 9);
        long h = mix(mix(17, 2, 16, 0, 0, 0, 0, 0), new int[120]);
        for (int p = 0; p < 15; p++) h = mix(h, 1);
        due(mix(mix(h, 9), rows), x.digest());
        x.net(1);
        due(mix(mix(17, 2, 1, 0, 0, 0, 0, 0, 1), rows), x.digest());
    }

    private static void digestWalkers() {
        promise(49);
        says("of each WALKER told() 0 to 6, START (NONE), POSTS and RESTS of its PLAN (-1 once: missing);");
        int[] rows = {-1, -1, -1, -1, -1, -1, -1, -1};
        x.walker(3, 0, 0);
        x.walker(0, 0, 0);
        x.walker(2, 3, 44);
        x.walker(1, 6, 0);
        x.home(0);
        x.view(2, 40);
        x.lose(3, true);
        put(0, 0, 1, 15);
        put(1, 127, -1);
        x.plan(3, 0, 1, 14399);
        x.tear(0);
        x.tear(1);
        due(mix(mix(17, 2, 1, 0, 0, 4, 0, 0, 1,
            -1,
            0, 60, 0, 0, 0, 0, -9, -9,
            2, 20, 40, 0, 0, 0, -9, -9,
            1, 10, 0, 1, 3, 0, -9, 14399, 0, 1, 15, 127, 0, 0), rows), x.digest());
        // one that goes, and a guard, on a fence
        fence(2);
        x.tear(7);
        plan(1, 5, 0, 1);
        x.tear(6);
        x.home(2);
        x.home(3);
        x.walker(3, 1, 9);
        due(mix(mix(17, 0, 2, 1, 0, 5, 2, 0, 2, 1, 1,
            -1,
            0, 60, 0, 0, 2, 1, 240, 5, 0, 1, 0, 0,
            -1,
            -1,
            3, 0, 0, 0, 0, 1, 1, -9), rows), x.digest());
    }

    private static void digestRows() {
        promise(49);
        says("of each ROW its size (-1: missing) and bytes.");
        put(0, 127, -128, 0);
        x.row(2, 0);
        put(7, -1);
        long h = mix(17, 2, 1, 0, 0, 0, 0, 3, 1);
        due(mix(h, 3, 127, -128, 0, -1, 0, -1, -1, -1, -1, 1, -1), x.digest());
        fresh();
        for (int r = 0; r < 8; r++) x.row(r, 40);
        x.lay(7, 39, 5);
        h = mix(17, 2, 1, 0, 0, 0, 0, 8, 1);
        for (int r = 0; r < 8; r++) h = mix(mix(h, 40), new int[40]);
        due(h + 5, x.digest());
    }
}
