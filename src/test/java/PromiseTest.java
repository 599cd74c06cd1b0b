/** For each promise of the document: ordinary inputs, the edges that it names, and wrong inputs. */
public final class PromiseTest extends Checks {
    public static void main(String[] args) {
        Runnable[] promises = {
            PromiseTest::newObject, PromiseTest::row, PromiseTest::lay, PromiseTest::tear, PromiseTest::copy,
            PromiseTest::mean, PromiseTest::fence, PromiseTest::net, PromiseTest::wall, PromiseTest::breaks,
            PromiseTest::far, PromiseTest::worth, PromiseTest::base, PromiseTest::walker, PromiseTest::home,
            PromiseTest::view, PromiseTest::lose, PromiseTest::told, PromiseTest::mark, PromiseTest::plan,
            PromiseTest::unplan, PromiseTest::planned, PromiseTest::fit, PromiseTest::where, PromiseTest::joint,
            PromiseTest::seen, PromiseTest::idle, PromiseTest::idleFrom, PromiseTest::worst, PromiseTest::share,
            PromiseTest::chance, PromiseTest::thief, PromiseTest::safe, PromiseTest::peril, PromiseTest::meet,
            PromiseTest::word, PromiseTest::spread, PromiseTest::round, PromiseTest::roundAt, PromiseTest::parting,
            PromiseTest::partOf, PromiseTest::fuel, PromiseTest::asked, PromiseTest::upper, PromiseTest::lower,
            PromiseTest::count, PromiseTest::finding, PromiseTest::findings, PromiseTest::digest,
        };
        for (int i = 0; i < promises.length; i++) {
            promise(i + 1);
            promises[i].run();
        }
        end(promises.length + " promises");
    }

    /** A fence with a walker more to and fro whose period is too long for any joint. */
    private static void spent() {
        fence(30, 30, 30, 30, 30);
        x.walker(0, 0, 0);
        plan(x.count(4) - 1, 0, 0, 1, 2, 3, 4, 5, 4, 3, 2, 1);
    }

    // ---- 1 rows, the ground

    private static void newObject() {
        due(2, x.count(0));
        due(1, x.count(1));
        for (int what = 2; what <= 6; what++) due(0, x.count(what));
        due(0, x.finding());
        for (int f = 1; f <= 5; f++) due(0, x.findings(f));
        due(0, x.asked());
        fraction(0, 1);
        due(0, x.far(0, 0));
        due(1, x.worth(0, 1));
        due(0, x.base(0, false));
        due(1, x.joint());
        for (int r = 0; r < 8; r++) {
            int row = r;
            found(NOTHING, () -> x.mean(row));
        }
        refused(BAD, () -> x.told(0, 0));
        refused(BAD, () -> x.far(0, 1));
        due(-1, WallWalkers.BAD);
        due(-2, WallWalkers.FULL);
        due(-3, WallWalkers.FINDING);
        due(-4, WallWalkers.STATE);
        due(-6, WallWalkers.SPENT);
        due(-9, WallWalkers.NONE);
    }

    private static void row() {
        due(40, x.row(0, 40));
        due(0, x.row(7, 0));
        due(2, x.count(6));
        due(1000, x.lay(0, 39, 5));
        due(3, x.row(0, 3));
        for (int i = 0; i < 3; i++) due(1000, x.lay(0, i, 9));
        due(3, x.row(0, 3));
        for (int i = 0; i < 3; i++) due(1000, x.lay(0, i, 0));
        due(2, x.count(6));
        refused(BAD, () -> x.row(-1, 3));
        refused(BAD, () -> x.row(8, 3));
        refused(BAD, () -> x.row(0, 41));
        refused(BAD, () -> x.row(8, -1));
        refused(BAD, () -> x.row(Integer.MAX_VALUE, Integer.MAX_VALUE));
        found(SIZE, () -> x.row(0, -1));
        found(SIZE, () -> x.row(3, Integer.MIN_VALUE));
    }

    private static void lay() {
        x.row(2, 3);
        due(1000, x.lay(2, 0, 127));
        due(1127, x.lay(2, 0, 128));
        due(872, x.lay(2, 0, 511));
        due(999, x.lay(2, 0, 256));
        due(1000, x.lay(2, 0, -128));
        due(872, x.lay(2, 0, Integer.MIN_VALUE + 7));
        due(1007, x.lay(2, 0, 0));
        due(1000, x.lay(2, 2, 1));
        refused(BAD, () -> x.lay(-1, 0, 0));
        refused(BAD, () -> x.lay(8, 0, 0));
        found(NOTHING, () -> x.lay(3, 0, 0));
        found(NOTHING, () -> x.lay(3, -1, 0));
        found(BEYOND, () -> x.lay(2, 3, 9));
        found(BEYOND, () -> x.lay(2, -1, 9));
        found(BEYOND, () -> x.lay(2, Integer.MAX_VALUE, 9));
        x.row(4, 0);
        found(BEYOND, () -> x.lay(4, 0, 9));
    }

    private static void tear() {
        x.row(0, 5);
        due(1, x.tear(0));
        due(0, x.count(6));
        found(NOTHING, () -> x.tear(0));
        found(NOTHING, () -> x.lay(0, 0, 0));
        x.row(0, 0);
        due(1, x.tear(0));
        refused(BAD, () -> x.tear(-1));
        refused(BAD, () -> x.tear(8));
    }

    private static void copy() {
        put(0, 1, 2, 3, 4, 5);
        put(1, 9, 9, 9);
        due(1, x.copy(0, 1, 1, 1, 2));
        due(1009, x.lay(1, 0, 9));
        due(1002, x.lay(1, 1, 2));
        due(1003, x.lay(1, 2, 3));
        due(1, x.copy(0, 0, 0, 1, 4));
        int[] ahead = {1, 1, 2, 3, 4};
        for (int i = 0; i < 5; i++) due(1000 + ahead[i], x.lay(0, i, ahead[i]));
        due(1, x.copy(0, 1, 0, 0, 4));
        int[] back = {1, 2, 3, 4, 4};
        for (int i = 0; i < 5; i++) due(1000 + back[i], x.lay(0, i, back[i]));
        due(1, x.copy(0, 5, 1, 3, 0));
        refused(BAD, () -> x.copy(-1, 0, 0, 0, 1));
        refused(BAD, () -> x.copy(0, 0, 8, 0, 1));
        found(NOTHING, () -> x.copy(2, 0, 0, 0, 1));
        found(NOTHING, () -> x.copy(0, 0, 2, 0, 1));
        found(NOTHING, () -> x.copy(0, -1, 2, 0, 1));
        found(BEYOND, () -> x.copy(0, 4, 1, 0, 2));
        found(BEYOND, () -> x.copy(0, 0, 1, 2, 2));
        found(BEYOND, () -> x.copy(0, -1, 1, 0, 1));
        found(BEYOND, () -> x.copy(0, 0, 1, -1, 1));
        found(BEYOND, () -> x.copy(0, 0, 1, 0, -1));
        found(BEYOND, () -> x.copy(0, 6, 1, 0, 0));
        found(BEYOND, () -> x.copy(0, 1, 1, 1, Integer.MAX_VALUE));
        found(BEYOND, () -> x.copy(0, Integer.MAX_VALUE, 1, 1, 1));
    }

    private static void mean() {
        put(0, 1, 2, 4);
        due(2, x.mean(0));
        put(0, -1, -2, -4);
        due(-2, x.mean(0));
        put(0, 127, 127, 127);
        due(127, x.mean(0));
        put(0, 200, 90);
        due(17, x.mean(0));
        refused(BAD, () -> x.mean(8));
        refused(BAD, () -> x.mean(-1));
        found(NOTHING, () -> x.mean(1));
        x.row(1, 0);
        found(NOUGHT, () -> x.mean(1));
    }

    private static void fence() {
        put(0, 30);
        due(2, x.fence(0, false));
        due(0, x.count(0));
        due(30, x.far(0, 1));
        put(0, 1, 2, 3);
        x.worth(0, 5);
        x.base(1, true);
        x.walker(0, 0, 0);
        plan(0, 4, 0, 1);
        due(3, x.fence(0, true));
        due(1, x.count(0));
        due(3, x.count(2));
        due(1, x.far(0, 1));
        due(2, x.far(1, 2));
        due(3, x.far(2, 0));
        due(1, x.worth(0, 1));
        due(0, x.base(1, false));
        due(2, x.told(0, 4));
        x.breaks(0, 1, true);
        due(4, x.fence(0, false));
        due(0, x.count(3));
        due(6, x.far(0, 3));
        x.row(1, 15);
        for (int i = 0; i < 15; i++) x.lay(1, i, 1);
        due(16, x.fence(1, false));
        due(15, x.fence(1, true));
        x.row(1, 16);
        for (int i = 0; i < 16; i++) x.lay(1, i, 1);
        due(16, x.fence(1, true));
        found(SIZE, () -> x.fence(1, false));
        x.row(2, 0);
        found(SIZE, () -> x.fence(2, false));
        put(2, 1, 1);
        found(SIZE, () -> x.fence(2, true));
        x.row(2, 17);
        found(SIZE, () -> x.fence(2, true));
        put(2, 1, 31, 1);
        found(SIZE, () -> x.fence(2, false));
        put(2, 1, 0, 1);
        found(SIZE, () -> x.fence(2, true));
        put(2, 1, -5, 1);
        found(SIZE, () -> x.fence(2, false));
        refused(BAD, () -> x.fence(8, false));
        refused(BAD, () -> x.fence(-1, true));
        found(NOTHING, () -> x.fence(3, false));
    }

    private static void net() {
        due(16, x.net(16));
        due(16, x.count(1));
        x.wall(0, 1, 3);
        x.worth(1, 0);
        x.base(2, true);
        x.breaks(0, 1, true);
        due(3, x.net(3));
        due(2, x.count(0));
        due(0, x.count(2));
        due(0, x.count(3));
        due(1, x.worth(1, 1));
        due(0, x.base(2, false));
        due(NONE, x.far(0, 1));
        fence(1, 1);
        due(1, x.net(1));
        due(2, x.count(0));
        refused(BAD, () -> x.net(0));
        refused(BAD, () -> x.net(17));
        refused(BAD, () -> x.net(-3));
    }

    private static void wall() {
        x.net(16);
        due(1, x.wall(0, 1, 30));
        due(2, x.wall(15, 1, 1));
        due(30, x.far(0, 1));
        due(31, x.far(0, 15));
        refused(BAD, () -> x.wall(1, 0, 5));
        refused(BAD, () -> x.wall(0, 1, 5));
        refused(BAD, () -> x.wall(3, 3, 5));
        refused(BAD, () -> x.wall(0, 2, 0));
        refused(BAD, () -> x.wall(0, 2, 31));
        refused(BAD, () -> x.wall(0, 16, 1));
        refused(BAD, () -> x.wall(-1, 0, 1));
        x.breaks(0, 1, true);
        refused(BAD, () -> x.wall(0, 1, 5));
        int many = 2;
        for (int a = 2; a < 15 && many < 40; a++) {
            for (int b = a + 1; b < 15 && many < 40; b++) due(++many, x.wall(a, b, 2));
        }
        due(40, x.count(2));
        refused(FULL, () -> x.wall(0, 3, 1));
        refused(BAD, () -> x.wall(0, 1, 1));
        fence(1, 1, 1);
        found(UNLIKE, () -> x.wall(0, 2, 1));
        refused(BAD, () -> x.wall(0, 1, 1));
        ring(1, 1, 1, 1);
        found(UNLIKE, () -> x.wall(0, 2, 1));
        refused(BAD, () -> x.wall(0, 3, 1));
    }

    private static void breaks() {
        ring(1, 2, 9);
        due(0, x.breaks(1, 0, true));
        due(1, x.breaks(0, 1, true));
        due(1, x.count(3));
        due(11, x.far(0, 1));
        due(1, x.breaks(0, 1, false));
        due(0, x.breaks(0, 1, false));
        due(0, x.count(3));
        due(3, x.count(2));
        due(1, x.far(0, 1));
        refused(BAD, () -> x.breaks(0, 3, true));
        refused(BAD, () -> x.breaks(-1, 0, true));
        fence(1, 1);
        found(NOTHING, () -> x.breaks(0, 2, true));
        found(NOTHING, () -> x.breaks(1, 1, true));
    }

    private static void far() {
        x.net(5);
        x.wall(0, 1, 10);
        x.wall(1, 2, 10);
        x.wall(0, 3, 4);
        x.wall(3, 2, 5);
        due(9, x.far(0, 2));
        due(9, x.far(2, 0));
        due(0, x.far(2, 2));
        due(NONE, x.far(0, 4));
        due(0, x.far(4, 4));
        x.breaks(0, 3, true);
        due(20, x.far(0, 2));
        due(25, x.far(0, 3));
        x.breaks(1, 2, true);
        due(NONE, x.far(0, 2));
        x.breaks(0, 3, false);
        due(9, x.far(0, 2));
        refused(BAD, () -> x.far(0, 5));
        refused(BAD, () -> x.far(-1, 0));
    }

    private static void worth() {
        x.net(2);
        due(1, x.worth(1, 9));
        due(9, x.worth(1, 0));
        due(0, x.worth(1, 0));
        refused(BAD, () -> x.worth(1, 10));
        refused(BAD, () -> x.worth(1, -1));
        refused(BAD, () -> x.worth(2, 1));
        refused(BAD, () -> x.worth(-1, 1));
    }

    private static void base() {
        x.net(2);
        due(0, x.base(0, true));
        due(1, x.base(0, true));
        due(1, x.base(0, false));
        due(0, x.base(0, false));
        refused(BAD, () -> x.base(2, true));
        refused(BAD, () -> x.base(-1, false));
    }

    // ---- 2 walkers, plans

    private static void walker() {
        x.net(3);
        due(0, x.walker(0, -7, 9999));
        due(1, x.walker(1, 6, -1));
        due(2, x.walker(2, 1, 500));
        due(3, x.walker(3, 2, -1));
        refused(BAD, () -> x.walker(-1, 1, 1));
        refused(BAD, () -> x.walker(4, 1, 1));
        refused(BAD, () -> x.walker(1, 0, 1));
        refused(BAD, () -> x.walker(1, 7, 1));
        refused(BAD, () -> x.walker(2, 0, 1));
        refused(BAD, () -> x.walker(2, 7, 1));
        refused(BAD, () -> x.walker(2, 1, 0));
        refused(BAD, () -> x.walker(2, 1, 501));
        refused(BAD, () -> x.walker(3, 3, 0));
        refused(BAD, () -> x.walker(3, -1, 0));
        x.home(0);
        for (int w = 4; w < 8; w++) due(w, x.walker(0, 0, 0));
        refused(FULL, () -> x.walker(0, 0, 0));
        refused(BAD, () -> x.walker(3, 3, 0));
        due(8, x.count(4));
    }

    private static void home() {
        x.walker(3, 0, 0);
        x.walker(3, 0, 0);
        due(2, x.count(5));
        due(1, x.home(0));
        due(1, x.count(5));
        due(2, x.count(4));
        found(NOTHING, () -> x.home(0));
        refused(BAD, () -> x.home(2));
        refused(BAD, () -> x.home(-1));
        refused(BAD, () -> x.home(8));
        due(2, x.walker(0, 0, 0));
    }

    private static void view() {
        fence(2, 3);
        x.walker(3, 0, 0);
        due(0, x.view(0, 4));
        x.seen(0);
        due(3, x.asked());
        due(4, x.view(0, 5));
        x.seen(0);
        due(7, x.asked());
        due(5, x.view(0, 40));
        due(40, x.view(0, 1));
        x.seen(0);
        due(1, x.asked());
        refused(BAD, () -> x.view(0, 41));
        refused(BAD, () -> x.view(0, -1));
        refused(BAD, () -> x.view(1, 0));
        x.home(0);
        found(NOTHING, () -> x.view(0, 1));
        refused(BAD, () -> x.view(0, 41));
    }

    private static void lose() {
        x.walker(3, 0, 0);
        due(0, x.lose(0, true));
        due(0, x.count(5));
        due(1, x.lose(0, true));
        due(1, x.lose(0, false));
        due(0, x.lose(0, false));
        due(1, x.count(5));
        refused(BAD, () -> x.lose(1, true));
        refused(BAD, () -> x.lose(-1, true));
        x.home(0);
        found(NOTHING, () -> x.lose(0, true));
    }

    private static void told() {
        fence(2, 3);
        x.walker(0, 0, 0);
        x.walker(1, 4, 0);
        x.walker(2, 6, 9);
        x.walker(3, 2, 0);
        int[] unit = {60, 15, 10, 0};
        for (int w = 0; w < 4; w++) {
            due(w, x.told(w, 0));
            due(unit[w], x.told(w, 1));
            due(0, x.told(w, 2));
            due(0, x.told(w, 3));
            due(0, x.told(w, 4));
            due(w == 3 ? 1 : 0, x.told(w, 5));
            due(w == 3 ? 1 : NONE, x.told(w, 6));
        }
        rested(1, 0, new int[] {0, 1, 2, 1}, 7, 0, 3);
        due(4, x.told(1, 4));
        due(1, x.told(1, 5));
        due(10 * 15 + 10, x.told(1, 6));
        x.view(1, 33);
        due(33, x.told(1, 2));
        x.lose(1, true);
        due(1, x.told(1, 3));
        due(0, x.told(1, 5));
        due(NONE, x.told(1, 6));
        x.net(2);
        due(0, x.told(3, 5));
        due(NONE, x.told(3, 6));
        refused(BAD, () -> x.told(0, -1));
        refused(BAD, () -> x.told(0, 7));
        refused(BAD, () -> x.told(4, 0));
        x.home(0);
        found(NOTHING, () -> x.told(0, 0));
        refused(BAD, () -> x.told(0, 7));
    }

    private static void mark() {
        fence(1);
        x.walker(0, 0, 0);
        x.walker(1, 3, 0);
        x.walker(2, 5, 77);
        x.walker(3, 1, 0);
        for (int w = 0; w < 4; w++) due(NONE, x.mark(w, 0));
        plan(0, 14399, 0, 1);
        due(14399, x.mark(0, 0));
        x.unplan(0);
        due(NONE, x.mark(0, 0));
        due(3, x.mark(1, 1));
        due(5, x.mark(2, 1));
        due(77, x.mark(2, 2));
        due(1, x.mark(3, 3));
        found(UNLIKE, () -> x.mark(0, 1));
        found(UNLIKE, () -> x.mark(0, 2));
        found(UNLIKE, () -> x.mark(0, 3));
        found(UNLIKE, () -> x.mark(1, 2));
        found(UNLIKE, () -> x.mark(2, 3));
        found(UNLIKE, () -> x.mark(3, 1));
        refused(BAD, () -> x.mark(0, 4));
        refused(BAD, () -> x.mark(0, -1));
        refused(BAD, () -> x.mark(4, 0));
        x.home(0);
        found(NOTHING, () -> x.mark(0, 1));
        refused(BAD, () -> x.mark(0, 4));
    }

    private static void plan() {
        fence(1, 1);
        x.walker(0, 0, 0);
        x.walker(3, 0, 0);
        put(0, 0, 1, 2, 1);
        put(1, 5, -5, 127);
        due(4, x.plan(0, 0, 1, 14399));
        int[] rests = {5, 0, 127, 0};
        for (int i = 0; i < 4; i++) due(rests[i], x.planned(0, i, true));
        due(14399, x.mark(0, 0));
        due(4, x.plan(0, 0, NONE, 0));
        for (int i = 0; i < 4; i++) due(0, x.planned(0, i, true));
        // the row may change or go: the plan stays
        x.lay(0, 0, 9);
        due(0, x.planned(0, 0, false));
        x.tear(0);
        due(4, x.told(0, 4));
        // a post that there is not is fine in a plan
        put(0, 15, 0);
        due(2, x.plan(0, 0, 1, 3));
        x.row(2, 24);
        for (int i = 0; i < 24; i++) x.lay(2, i, i % 3);
        due(24, x.plan(0, 2, 2, 3));
        due(2, x.planned(0, 23, true));
        x.row(2, 25);
        found(SIZE, () -> x.plan(0, 2, NONE, 0));
        put(2, 1);
        found(SIZE, () -> x.plan(0, 2, NONE, 0));
        x.row(2, 0);
        found(SIZE, () -> x.plan(0, 2, NONE, 0));
        put(2, 0, 1, 1, 2);
        found(BEYOND, () -> x.plan(0, 2, NONE, 0));
        put(2, 0, 1, 2, 0);
        found(BEYOND, () -> x.plan(0, 2, NONE, 0));
        put(2, 0, 16);
        found(BEYOND, () -> x.plan(0, 2, NONE, 0));
        put(2, 0, -1);
        found(BEYOND, () -> x.plan(0, 2, NONE, 0));
        found(UNLIKE, () -> x.plan(1, 2, NONE, 0));
        found(NOTHING, () -> x.plan(1, 4, NONE, 0));
        found(NOTHING, () -> x.plan(0, 2, 4, 0));
        refused(BAD, () -> x.plan(0, 2, NONE, -1));
        refused(BAD, () -> x.plan(0, 2, NONE, 14400));
        refused(BAD, () -> x.plan(0, 8, NONE, 0));
        refused(BAD, () -> x.plan(0, NONE, NONE, 0));
        refused(BAD, () -> x.plan(0, 2, -1, 0));
        refused(BAD, () -> x.plan(0, 2, 8, 0));
        refused(BAD, () -> x.plan(2, 2, NONE, 0));
        x.home(0);
        found(NOTHING, () -> x.plan(0, 2, NONE, 0));
    }

    private static void unplan() {
        fence(1, 1);
        x.walker(0, 0, 0);
        x.walker(3, 0, 0);
        plan(0, 9, 0, 1);
        due(2, x.unplan(0));
        due(0, x.told(0, 5));
        due(NONE, x.mark(0, 0));
        due(0, x.unplan(0));
        due(0, x.unplan(1));
        refused(BAD, () -> x.unplan(2));
        refused(BAD, () -> x.unplan(-1));
        x.home(0);
        found(NOTHING, () -> x.unplan(0));
    }

    private static void planned() {
        fence(1, 1);
        x.walker(0, 0, 0);
        rested(0, 9, new int[] {2, 1}, 3, 4);
        due(2, x.planned(0, 0, false));
        due(1, x.planned(0, 1, false));
        due(3, x.planned(0, 0, true));
        due(4, x.planned(0, 1, true));
        found(BEYOND, () -> x.planned(0, 2, false));
        found(BEYOND, () -> x.planned(0, -1, true));
        refused(BAD, () -> x.planned(1, 0, true));
        refused(BAD, () -> x.planned(-1, 0, true));
        x.unplan(0);
        found(BEYOND, () -> x.planned(0, 0, false));
        x.home(0);
        found(NOTHING, () -> x.planned(0, 0, false));
    }

    private static void fit() {
        x.net(4);
        x.wall(0, 1, 2);
        x.wall(1, 2, 3);
        x.walker(2, 1, 9);
        x.walker(3, 0, 0);
        x.walker(0, 0, 0);
        due(1, x.fit(0));
        due(1, x.fit(1));
        plan(0, 0, 0, 1, 2, 1);
        due(5, x.fit(0));
        plan(2, 0, 0, 1, 2, 1);
        due(0, x.fit(2));
        x.base(0, true);
        due(6, x.fit(0));
        x.base(2, true);
        due(0, x.fit(0));
        x.base(0, false);
        due(6, x.fit(0));
        x.base(1, true);
        due(0, x.fit(0));
        x.breaks(0, 1, true);
        due(4, x.fit(0));
        due(4, x.fit(2));
        // a wall that is missing behind one that is broken comes first all the same
        plan(2, 0, 0, 1, 3);
        due(3, x.fit(2));
        plan(2, 0, 0, 3, 5);
        due(2, x.fit(2));
        x.lose(2, true);
        due(2, x.fit(2));
        x.breaks(0, 1, false);
        due(0, x.fit(0));
        x.home(1);
        found(NOTHING, () -> x.fit(1));
        refused(BAD, () -> x.fit(3));
        refused(BAD, () -> x.fit(-1));
    }

    private static void where() {
        fence(2, 4);
        x.walker(1, 2, 0);
        x.walker(3, 1, 0);
        x.walker(0, 0, 0);
        rested(0, 100, new int[] {0, 1, 2, 1}, 10, 0, 5);
        // 0: 0 to 10, 1: 70, 2: 190 to 195, 1: 315, round: 375
        int[][] rows = {
            {100, 0, 0, 0}, {110, 0, 0, 0}, {111, 0, 1, 1}, {169, 0, 1, 59}, {170, 1, 1, 0}, {171, 1, 2, 1},
            {289, 1, 2, 119}, {290, 2, 2, 0}, {295, 2, 2, 0}, {296, 2, 1, 1}, {415, 1, 1, 0}, {474, 1, 0, 59},
            {475, 0, 0, 0}, {99, 1, 0, 59}, {0, 2, 1, 80}, {100 + 375 * 200 + 11, 0, 1, 1},
        };
        for (int[] r : rows) for (int what = 0; what < 3; what++) due(r[what + 1], x.where(0, r[0], what));
        due(1, x.where(1, 77, 0));
        due(1, x.where(1, 77, 1));
        due(0, x.where(1, 100000, 2));
        refused(BAD, () -> x.where(0, -1, 0));
        refused(BAD, () -> x.where(0, 100001, 0));
        refused(BAD, () -> x.where(0, 0, 3));
        refused(BAD, () -> x.where(0, 0, -1));
        refused(BAD, () -> x.where(3, 0, 0));
        refused(STATE, () -> x.where(2, 0, 0));
        x.lose(0, true);
        refused(STATE, () -> x.where(0, 0, 0));
        x.home(0);
        found(NOTHING, () -> x.where(0, 0, 0));
    }

    // ---- 3 what is seen

    private static void joint() {
        due(1, x.joint());
        fence(1, 2);
        x.walker(3, 0, 0);
        due(1, x.joint());
        x.walker(0, 0, 0);
        plan(1, 0, 0, 1);
        due(120, x.joint());
        x.walker(1, 4, 0);
        rested(2, 0, new int[] {1, 2}, 12);
        due(360, x.joint());
        rested(2, 0, new int[] {1, 2}, 61);
        refused(SPENT, () -> x.joint());
        x.lose(1, true);
        due(121, x.joint());
        rested(2, 0, new int[] {1, 2}, 60);
        x.lose(1, false);
        due(120, x.joint());
        fresh();
        // 14400 by one alone
        fence(30, 30, 30, 30);
        x.walker(0, 0, 0);
        plan(0, 0, 0, 1, 2, 3, 4, 3, 2, 1);
        due(14400, x.joint());
        rested(0, 0, new int[] {0, 1, 2, 3, 4, 3, 2, 1}, 1);
        refused(SPENT, () -> x.joint());
    }

    private static void seen() {
        fence(2, 4, 2);
        x.walker(0, 0, 0);
        x.walker(3, 3, 0);
        rested(0, 50, new int[] {0, 1}, 10);
        due(1, x.seen(49));
        due(8, x.asked());
        due(2, x.seen(50));
        due(9, x.asked());
        due(2, x.seen(60));
        due(9, x.asked());
        due(1, x.seen(61));
        due(1, x.seen(179));
        due(2, x.seen(180));
        due(10, x.asked());
        due(1, x.seen(181));
        x.view(0, 4);
        due(4, x.seen(180));
        due(15, x.asked());
        x.breaks(1, 2, true);
        due(3, x.seen(180));
        due(11, x.asked());
        due(3, x.seen(50 + 250 * 399));
        refused(BAD, () -> x.seen(-1));
        refused(BAD, () -> x.seen(100001));
        due(1, x.seen(100000));
        x.lose(0, true);
        x.lose(1, true);
        due(0, x.seen(0));
        due(0, x.asked());
        spent();
        refused(SPENT, () -> x.seen(0));
        refused(BAD, () -> x.seen(-1));
    }

    private static void idle() {
        fence(1, 2);
        due(NONE, x.idle(0));
        x.walker(0, 0, 0);
        plan(0, 30, 0, 1);
        due(119, x.idle(0));
        due(119, x.idle(1));
        due(NONE, x.idle(2));
        x.walker(3, 1, 0);
        due(0, x.idle(1));
        x.view(1, 1);
        due(0, x.idle(0));
        x.view(1, 0);
        // a rest that goes on over time 0 hides what would else be a gap
        rested(0, 14399, new int[] {0, 1}, 100);
        due(119, x.idle(0));
        x.walker(1, 6, 0);
        rested(2, 0, new int[] {0, 1}, 0, 90);
        due(0, x.idle(1));
        refused(BAD, () -> x.idle(3));
        refused(BAD, () -> x.idle(-1));
        spent();
        refused(SPENT, () -> x.idle(0));
        refused(BAD, () -> x.idle(6));
    }

    private static void idleFrom() {
        fence(1, 2);
        due(NONE, x.idleFrom(0));
        x.walker(0, 0, 0);
        plan(0, 30, 0, 1);
        due(31, x.idleFrom(0));
        due(91, x.idleFrom(1));
        due(NONE, x.idleFrom(2));
        // two rows of the same length in one round: that which begins least
        plan(0, 100, 0, 1, 0, 1);
        due(101, x.idleFrom(0));
        plan(0, 119, 0, 1);
        due(0, x.idleFrom(0));
        plan(0, 118, 0, 1);
        due(119, x.idleFrom(0));
        // rests that go on over time 0, or end just then
        rested(0, 125, new int[] {0, 1}, 10);
        due(6, x.idleFrom(0));
        rested(0, 120, new int[] {0, 1}, 10);
        due(1, x.idleFrom(0));
        rested(0, 119, new int[] {0, 1}, 10);
        due(0, x.idleFrom(0));
        // one rests at post 0 from 170 to 50, over time 0, the other one comes there at 20 for no longer
        rested(0, 170, new int[] {0, 1}, 100);
        x.walker(0, 0, 0);
        rested(1, 20, new int[] {0, 1}, 0, 100);
        due(119, x.idle(0));
        due(51, x.idleFrom(0));
        x.lose(1, true);
        x.walker(3, 0, 0);
        due(NONE, x.idleFrom(0));
        refused(BAD, () -> x.idleFrom(3));
        refused(BAD, () -> x.idleFrom(-1));
        spent();
        refused(SPENT, () -> x.idleFrom(0));
    }

    private static void worst() {
        fence(1, 2, 1);
        due(0, x.worst());
        due(NONE, x.asked());
        x.walker(0, 0, 0);
        plan(0, 0, 0, 1, 2, 1);
        due(3, x.worst());
        due(NONE, x.asked());
        x.worth(3, 0);
        // post 0: every 360 parts, 1: 0 and 240 later, 2: every 360
        due(0, x.worst());
        due(359, x.asked());
        x.worth(1, 2);
        due(1, x.worst());
        due(478, x.asked());
        for (int p = 0; p < 3; p++) x.worth(p, 0);
        due(NONE, x.worst());
        due(478, x.asked());
        x.worth(2, 9);
        x.walker(3, 2, 0);
        due(2, x.worst());
        due(0, x.asked());
        spent();
        refused(SPENT, () -> x.worst());
    }

    private static void share() {
        fence(1, 2);
        x.walker(0, 0, 0);
        rested(0, 30, new int[] {0, 1}, 39);
        // 159 parts round, 40 of them with post 0 seen
        due(1, x.share(0));
        fraction(40, 159);
        due(1, x.share(1));
        fraction(1, 159);
        due(1, x.share(2));
        fraction(0, 1);
        x.walker(3, 2, 0);
        due(1, x.share(2));
        fraction(1, 1);
        rested(0, 30, new int[] {0, 1}, 29, 31);
        due(1, x.share(0));
        fraction(1, 6);
        refused(BAD, () -> x.share(3));
        refused(BAD, () -> x.share(-1));
        spent();
        refused(SPENT, () -> x.share(0));
    }

    private static void chance() {
        fence(1, 2);
        x.walker(0, 0, 0);
        plan(0, 30, 0, 1);
        due(1, x.chance(0, 1));
        fraction(119, 120);
        due(1, x.chance(0, 119));
        fraction(1, 120);
        due(1, x.chance(0, 120));
        fraction(0, 1);
        due(1, x.chance(0, 14400));
        fraction(0, 1);
        due(1, x.chance(2, 14400));
        fraction(1, 1);
        due(1, x.chance(1, 60));
        fraction(1, 2);
        refused(BAD, () -> x.chance(3, 1));
        refused(BAD, () -> x.chance(0, 0));
        refused(BAD, () -> x.chance(0, 14401));
        spent();
        refused(SPENT, () -> x.chance(0, 1));
        refused(BAD, () -> x.chance(0, 0));
    }

    private static void thief() {
        fence(1, 2);
        x.walker(0, 0, 0);
        plan(0, 0, 0, 1, 2, 1);
        // 0 and 2 once in 360 parts, 1 twice: 119 and 239 parts
        due(0, x.thief(200));
        fraction(4, 9);
        x.worth(2, 2);
        due(2, x.thief(200));
        fraction(8, 9);
        x.worth(1, 9);
        due(1, x.thief(200));
        fraction(1, 1);
        due(2, x.thief(359));
        fraction(1, 180);
        due(NONE, x.thief(360));
        fraction(1, 180);
        x.worth(0, 0);
        x.worth(1, 0);
        x.worth(2, 0);
        due(NONE, x.thief(1));
        refused(BAD, () -> x.thief(0));
        refused(BAD, () -> x.thief(14401));
        spent();
        refused(SPENT, () -> x.thief(1));
        refused(BAD, () -> x.thief(0));
    }

    private static void safe() {
        fence(1, 2);
        due(NONE, x.safe());
        x.walker(0, 0, 0);
        plan(0, 0, 0, 1);
        due(NONE, x.safe());
        x.worth(2, 0);
        due(119, x.safe());
        plan(0, 0, 0, 1, 2, 1);
        due(359, x.safe());
        x.worth(0, 0);
        due(239, x.safe());
        x.walker(3, 1, 0);
        due(0, x.safe());
        x.worth(1, 0);
        due(0, x.safe());
        spent();
        refused(SPENT, () -> x.safe());
    }

    private static void peril() {
        fence(1, 1);
        for (int w = 0; w < 3; w++) {
            x.walker(0, 0, 0);
            plan(w, 60 * w, 0, 1, 2, 1);
        }
        due(119, x.peril(0));
        due(0, x.asked());
        // the walkers come to post 0 at 0, 60 and 120 of 240 parts
        due(179, x.peril(1));
        due(1, x.asked());
        due(239, x.peril(2));
        due(3, x.asked());
        due(NONE, x.peril(3));
        due(7, x.asked());
        x.lose(0, true);
        due(239, x.peril(1));
        due(2, x.asked());
        due(NONE, x.peril(3));
        due(6, x.asked());
        x.worth(0, 0);
        x.worth(1, 0);
        x.worth(2, 0);
        due(0, x.peril(1));
        due(2, x.asked());
        refused(BAD, () -> x.peril(-1));
        refused(BAD, () -> x.peril(4));
        x.lose(1, true);
        x.lose(2, true);
        due(0, x.peril(2));
        due(0, x.asked());
        spent();
        // with the one that is spent lost all would be well
        due(NONE, x.peril(1));
        due(8, x.asked());
        refused(SPENT, () -> x.peril(0));
        refused(BAD, () -> x.peril(4));
        x.walker(3, 0, 0);
        refused(SPENT, () -> x.peril(1));
        due(NONE, x.peril(2));
        due(24, x.asked());
    }

    // ---- 4 meetings, words

    private static void meet() {
        fence(2, 4, 2);
        x.walker(0, 0, 0);
        x.walker(1, 2, 0);
        x.walker(3, 3, 0);
        x.walker(3, 3, 0);
        x.walker(3, 0, 0);
        plan(0, 0, 0, 1, 2, 3, 2, 1);
        plan(1, 100, 0, 1, 2, 3, 2, 1);
        due(1, x.meet(0, 1, 0));
        fraction(200, 3);
        due(1, x.meet(1, 0, 500));
        fraction(2120, 3);
        due(1, x.meet(0, 2, 0));
        fraction(480, 1);
        due(1, x.meet(0, 2, 481));
        fraction(1440, 1);
        due(1, x.meet(2, 3, 14399));
        fraction(14399, 1);
        due(NONE, x.meet(2, 4, 0));
        fraction(14399, 1);
        // two of one speed side by side are together at any time, on a wall too
        x.walker(0, 0, 0);
        plan(5, 0, 0, 1, 2, 3, 2, 1);
        due(1, x.meet(0, 5, 7));
        fraction(7, 1);
        // overtaken on a wall: 60 ahead with half the speed
        x.walker(1, 2, 0);
        plan(6, 60, 0, 1, 2, 3, 2, 1);
        due(1, x.meet(0, 6, 100));
        fraction(120, 1);
        plan(0, 0, 0, 1);
        plan(1, 0, 3, 2);
        due(NONE, x.meet(0, 1, 0));
        fraction(120, 1);
        refused(BAD, () -> x.meet(0, 0, 0));
        refused(BAD, () -> x.meet(0, 7, 0));
        refused(BAD, () -> x.meet(-1, 0, 0));
        refused(BAD, () -> x.meet(0, 1, -1));
        refused(BAD, () -> x.meet(0, 1, 14400));
        x.unplan(1);
        refused(STATE, () -> x.meet(0, 1, 0));
        refused(STATE, () -> x.meet(1, 0, 0));
        x.home(5);
        found(NOTHING, () -> x.meet(5, 1, 0));
        found(NOTHING, () -> x.meet(1, 5, 0));
        refused(BAD, () -> x.meet(5, 5, 0));
        spent();
        refused(SPENT, () -> x.meet(7, 4, 0));
        plan(0, 0, 0, 1);
        refused(SPENT, () -> x.meet(7, 0, 0));
        due(1, x.meet(0, 4, 1));
        fraction(3600, 1);
    }

    private static void word() {
        fence(2, 4, 2);
        x.walker(0, 0, 0);
        x.walker(1, 2, 0);
        x.walker(1, 2, 0);
        plan(0, 0, 0, 1, 2, 3, 2, 1);
        plan(1, 100, 0, 1, 2, 3, 2, 1);
        due(1, x.word(0, 0, 1));
        fraction(200, 3);
        // by way of a third one it comes sooner
        plan(2, 0, 0, 1, 2, 3, 2, 1);
        due(1, x.word(0, 0, 1));
        fraction(50, 1);
        due(1, x.word(1, 14399, 1));
        fraction(14399, 1);
        x.walker(3, 3, 0);
        due(1, x.word(0, 0, 3));
        fraction(240, 1);
        x.lose(2, true);
        due(1, x.word(0, 0, 1));
        fraction(200, 3);
        plan(0, 0, 0, 1);
        plan(1, 0, 3, 2);
        due(NONE, x.word(0, 0, 1));
        fraction(200, 3);
        refused(BAD, () -> x.word(0, -1, 1));
        refused(BAD, () -> x.word(0, 14400, 1));
        refused(BAD, () -> x.word(0, 0, 4));
        refused(BAD, () -> x.word(-1, 0, 1));
        refused(STATE, () -> x.word(2, 0, 1));
        refused(STATE, () -> x.word(1, 0, 2));
        x.home(3);
        found(NOTHING, () -> x.word(3, 0, 2));
        found(NOTHING, () -> x.word(2, 0, 3));
        x.unplan(0);
        x.unplan(1);
        spent();
        // one alone is no two
        due(1, x.word(4, 5, 4));
        fraction(5, 1);
        plan(0, 0, 0, 1);
        refused(SPENT, () -> x.word(0, 5, 0));
        refused(STATE, () -> x.word(0, 5, 2));
    }

    private static void spread() {
        fence(2, 4, 2);
        x.walker(0, 0, 0);
        x.walker(1, 2, 0);
        x.walker(1, 3, 0);
        x.walker(3, 3, 0);
        plan(0, 0, 0, 1);
        plan(1, 120, 1, 2);
        plan(2, 40, 3, 2);
        due(4, x.spread(3, 0));
        due(4, x.spread(0, 14399));
        x.lose(1, true);
        due(1, x.spread(0, 0));
        due(2, x.spread(2, 14399));
        due(2, x.spread(3, 0));
        refused(BAD, () -> x.spread(0, -1));
        refused(BAD, () -> x.spread(0, 14400));
        refused(BAD, () -> x.spread(4, 0));
        refused(STATE, () -> x.spread(1, 0));
        x.home(1);
        found(NOTHING, () -> x.spread(1, 0));
        spent();
        plan(0, 0, 0, 1);
        refused(SPENT, () -> x.spread(0, 0));
        refused(SPENT, () -> x.spread(4, 0));
        x.lose(4, true);
        due(1, x.spread(0, 0));
    }

    // ---- 5 rounds, partings

    private static void round() {
        due(0, x.round());
        ring(3, 4, 5, 6);
        due(18, x.round());
        x.worth(0, 0);
        x.worth(2, 0);
        due(18, x.round());
        x.breaks(0, 1, true);
        due(18, x.round());
        x.breaks(2, 3, true);
        due(NONE, x.round());
        x.breaks(0, 1, false);
        due(18, x.round());
        x.worth(1, 0);
        due(0, x.round());
        x.worth(3, 0);
        due(0, x.round());
        x.net(11);
        refused(STATE, () -> x.round());
        x.worth(0, 0);
        due(NONE, x.round());
        for (int p = 1; p < 10; p++) x.wall(p, p + 1, p);
        due(90, x.round());
        x.breaks(5, 6, true);
        due(NONE, x.round());
        x.wall(0, 1, 30);
        x.wall(0, 10, 30);
        // from 5 down to 1, over post 0, which needs no watch, to 10 and down to 6: 10 + 60 + 30, and back
        due(200, x.round());
    }

    private static void roundAt() {
        due(0, x.roundAt(0));
        due(NONE, x.roundAt(1));
        // a square with both ways round as short: the one that comes to post 1 first
        x.net(4);
        x.wall(0, 2, 1);
        x.wall(2, 3, 1);
        x.wall(3, 1, 1);
        x.wall(1, 0, 1);
        int[] order = {0, 1, 3, 2, NONE};
        for (int i = 0; i < 5; i++) due(order[i], x.roundAt(i));
        due(NONE, x.roundAt(-1));
        due(NONE, x.roundAt(Integer.MIN_VALUE));
        due(NONE, x.roundAt(Integer.MAX_VALUE));
        x.worth(0, 0);
        int[] others = {1, 2, 3, NONE};
        for (int i = 0; i < 4; i++) due(others[i], x.roundAt(i));
        x.breaks(2, 3, true);
        x.breaks(2, 0, true);
        due(NONE, x.roundAt(0));
        x.worth(1, 0);
        x.worth(3, 0);
        due(2, x.roundAt(0));
        x.worth(2, 0);
        due(NONE, x.roundAt(0));
        x.net(11);
        refused(STATE, () -> x.roundAt(0));
        refused(STATE, () -> x.roundAt(-1));
        fence(1, 1, 1, 1, 1, 1, 1, 1, 1);
        for (int i = 0; i < 10; i++) due(i, x.roundAt(i));
    }

    private static void parting() {
        found(UNLIKE, () -> x.parting());
        fence(3, 9, 1, 6, 2);
        refused(STATE, () -> x.parting());
        x.walker(3, 0, 0);
        refused(STATE, () -> x.parting());
        x.walker(1, 3, 0);
        due(840, x.parting());
        x.walker(0, 0, 0);
        due(360, x.parting());
        x.breaks(3, 4, true);
        // 0 to 3 for the one of 3 and 4 to 5 for the other
        due(520, x.parting());
        x.breaks(1, 2, true);
        refused(STATE, () -> x.parting());
        x.walker(2, 6, 1);
        due(120, x.parting());
        x.lose(3, true);
        refused(STATE, () -> x.parting());
        x.lose(3, false);
        x.home(2);
        refused(STATE, () -> x.parting());
        ring(1, 1, 1);
        found(UNLIKE, () -> x.parting());
        // a sixth walker is not asked
        fresh();
        fence(1, 1, 1, 1, 1);
        for (int w = 0; w < 6; w++) x.walker(w < 5 ? 0 : 1, 6, 0);
        due(120, x.parting());
        x.lose(0, true);
        due(20, x.parting());
        x.lose(0, false);
        x.home(3);
        due(20, x.parting());
        fence(1, 1, 1, 1);
        due(0, x.parting());
    }

    private static void partOf() {
        for (int w = 0; w < 8; w++) {
            due(NONE, x.partOf(w, false));
            due(NONE, x.partOf(w, true));
        }
        refused(BAD, () -> x.partOf(-1, false));
        refused(BAD, () -> x.partOf(8, true));
        fence(2, 2, 2, 2);
        x.walker(3, 0, 0);
        x.walker(0, 0, 0);
        x.walker(0, 0, 0);
        x.walker(0, 0, 0);
        // five posts, three walkers, 240 at best: 1 gets two, then 2 two, then 3 one
        due(240, x.parting());
        int[] firsts = {NONE, 0, 2, 4};
        int[] lasts = {NONE, 1, 3, 4};
        for (int w = 0; w < 4; w++) {
            due(firsts[w], x.partOf(w, false));
            due(lasts[w], x.partOf(w, true));
        }
        // it stays as it was, whatever comes, until the next one
        x.home(1);
        x.net(3);
        x.parting();
        for (int w = 0; w < 4; w++) due(firsts[w], x.partOf(w, false));
        fence(2);
        // one of two walkers has nothing left: the least one has all that he can have
        due(0, x.parting());
        due(NONE, x.partOf(1, false));
        due(0, x.partOf(2, true));
        due(1, x.partOf(3, false));
        fence(30, 1);
        due(120, x.parting());
        due(0, x.partOf(2, true));
        due(1, x.partOf(3, false));
        due(2, x.partOf(3, true));
        x.lose(2, true);
        due(3720, x.parting());
        due(NONE, x.partOf(2, false));
        due(2, x.partOf(3, true));
    }

    private static void fuel() {
        ring(3, 4, 5);
        x.walker(2, 1, 2);
        x.walker(0, 0, 0);
        x.walker(3, 0, 0);
        refused(STATE, () -> x.fuel(0));
        refused(STATE, () -> x.fuel(2));
        plan(0, 0, 0, 1, 2);
        plan(1, 0, 0, 1, 2, 1);
        due(NONE, x.fuel(0));
        due(NONE, x.fuel(1));
        x.base(1, true);
        due(12, x.fuel(0));
        due(8, x.fuel(1));
        x.base(2, true);
        due(8, x.fuel(0));
        due(6, x.fuel(1));
        x.lose(0, true);
        due(8, x.fuel(0));
        x.breaks(1, 0, true);
        refused(STATE, () -> x.fuel(0));
        x.breaks(1, 0, false);
        plan(0, 0, 0, 3);
        refused(STATE, () -> x.fuel(0));
        ring(1, 1, 1, 1);
        plan(0, 0, 0, 2);
        refused(STATE, () -> x.fuel(0));
        refused(BAD, () -> x.fuel(3));
        refused(BAD, () -> x.fuel(-1));
        x.home(0);
        found(NOTHING, () -> x.fuel(0));
    }

    // ---- 6 what is told

    private static void asked() {
        due(0, x.asked());
        fence(1, 1);
        x.walker(3, 1, 0);
        x.seen(0);
        due(2, x.asked());
        due(0, x.worst());
        due(NONE, x.asked());
        due(NONE, x.peril(1));
        due(1, x.asked());
        x.seen(-1);
        x.peril(4);
        x.idle(0);
        due(1, x.asked());
        x.worth(0, 0);
        x.worth(2, 0);
        due(1, x.worst());
        due(0, x.asked());
        x.seen(3);
        due(2, x.asked());
        x.worth(1, 0);
        due(NONE, x.worst());
        due(2, x.asked());
    }

    private static void upper() {
        due(0, x.upper());
        fence(1, 1);
        x.walker(0, 0, 0);
        plan(0, 0, 0, 1);
        x.chance(0, 60);
        due(1, x.upper());
        x.share(0);
        due(1, x.upper());
        x.word(0, 14399, 0);
        due(14399, x.upper());
        x.chance(0, 0);
        x.chance(7, 1);
        x.thief(14400 * 2);
        due(14399, x.upper());
        x.thief(1);
        due(1, x.upper());
        x.share(2);
        due(0, x.upper());
    }

    private static void lower() {
        due(1, x.lower());
        fence(1, 1);
        x.walker(0, 0, 0);
        plan(0, 0, 0, 1);
        x.chance(0, 60);
        due(2, x.lower());
        x.share(0);
        due(120, x.lower());
        x.share(3);
        due(120, x.lower());
        x.share(2);
        due(1, x.lower());
        x.chance(0, 119);
        due(120, x.lower());
        x.word(0, 7, 0);
        due(1, x.lower());
    }

    private static void count() {
        ring(1, 1, 1, 1);
        due(1, x.count(0));
        due(4, x.count(1));
        due(4, x.count(2));
        x.breaks(0, 3, true);
        x.breaks(0, 1, true);
        due(2, x.count(3));
        x.walker(3, 3, 0);
        x.walker(3, 2, 0);
        x.walker(0, 0, 0);
        due(3, x.count(4));
        due(2, x.count(5));
        x.home(0);
        due(3, x.count(4));
        due(1, x.count(5));
        plan(2, 0, 1, 2);
        due(2, x.count(5));
        due(2, x.count(6));
        x.tear(7);
        due(1, x.count(6));
        fence(1, 1);
        due(0, x.count(0));
        due(3, x.count(1));
        due(0, x.count(3));
        x.net(2);
        due(2, x.count(0));
        due(0, x.count(2));
        refused(BAD, () -> x.count(-1));
        refused(BAD, () -> x.count(7));
    }

    private static void finding() {
        due(0, x.finding());
        x.row(0, -1);
        due(SIZE, x.finding());
        x.row(0, 41);
        due(SIZE, x.finding());
        x.row(0, 0);
        due(SIZE, x.finding());
        x.mean(0);
        due(NOUGHT, x.finding());
        x.lay(0, 0, 0);
        due(BEYOND, x.finding());
        x.tear(1);
        due(NOTHING, x.finding());
        x.parting();
        due(UNLIKE, x.finding());
    }

    private static void findings() {
        for (int i = 0; i < 3; i++) x.tear(0);
        for (int i = 0; i < 2; i++) x.parting();
        x.row(0, -5);
        x.row(0, 0);
        for (int i = 0; i < 4; i++) x.mean(0);
        for (int i = 0; i < 5; i++) x.lay(0, i, 0);
        int[] many = {0, 3, 5, 2, 4, 1};
        for (int f = 1; f <= 5; f++) due(many[f], x.findings(f));
        refused(BAD, () -> x.findings(0));
        refused(BAD, () -> x.findings(6));
        refused(BAD, () -> x.findings(Integer.MIN_VALUE));
    }

    private static void digest() {
        // 17, then the counts 2 1 0 0 0 0 0, post 0's worth, eight rows missing
        due(mix(2, 1, 0, 0, 0, 0, 0, 1, -1, -1, -1, -1, -1, -1, -1, -1), x.digest());
        ring(3, 4, 5);
        x.breaks(1, 2, true);
        x.worth(0, 7);
        x.base(2, true);
        x.walker(2, 2, 8);
        x.walker(3, 1, 0);
        x.walker(0, 0, 0);
        x.home(1);
        rested(2, 44, new int[] {0, 2}, -7, 6, 5);
        x.view(0, 12);
        x.lose(0, true);
        due(mix(1, 3, 3, 1, 3, 1, 3, 3, 5, -4, 7, 1, 11,
            2, 30, 12, 1, 0, 0, -9, -9, -1, 0, 60, 0, 0, 2, 1, 606, 44, 0, 2, 0, 6,
            -1, -1, -1, -1, -1, 3, -7, 6, 5, 2, 0, 2, 3, 3, 4, 5), x.digest());
        long before = x.digest();
        due(before, x.digest());
        x.tear(5);
        due(1, before == x.digest() ? 0 : 1);
    }

    private static long mix(int... values) {
        long h = 17;
        for (int v : values) h = 31 * h + v;
        return h;
    }
}
