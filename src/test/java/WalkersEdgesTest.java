/** Promises 14 to 24, sentence by sentence: the last that is allowed, the first that is not, the empty, the full. */
public final class WalkersEdgesTest extends Checks {
    public static void main(String[] args) {
        walker();
        home();
        view();
        lose();
        told();
        toldLimits();
        mark();
        plan();
        planSizes();
        unplan();
        planned();
        fit();
        where();
        whereRefusals();
        end("promises 14 to 24");
    }

    /** One walker of each kind on a fence of lengths 2 and 4, the first three of them with a plan, and one sent home. */
    private static void crew() {
        fence(2, 4);
        x.walker(0, 0, 0);
        x.walker(1, 2, 0);
        x.walker(2, 3, 12);
        x.walker(3, 1, 0);
        x.walker(0, 0, 0);
        x.base(0, true);
        for (int w = 0; w < 3; w++) plan(w, 10 * w, 0, 1, 2, 1);
        x.home(4);
    }

    private static void walker() {
        promise(14);
        says("A WALKER of a KIND: its number.");
        for (int w = 0; w < 8; w++) {
            due(w, x.walker(w % 4, w % 4 == 3 ? 0 : 1, 1));
            due(w % 4, x.told(w, 0));
            due(w + 1, x.count(4));
        }
        says("a: a RUNNER's, RIDER's SPEED, a GUARD's POST (that there is); b: FUEL");
        x.net(16);
        due(0, x.walker(1, 1, 0));
        due(1, x.walker(1, 6, 0));
        due(2, x.walker(2, 1, 1));
        due(3, x.walker(2, 6, 500));
        due(4, x.walker(3, 0, 0));
        due(5, x.walker(3, 15, 0));
        due(1, x.mark(0, 1));
        due(6, x.mark(1, 1));
        due(1, x.mark(2, 1));
        due(1, x.mark(2, 2));
        due(6, x.mark(3, 1));
        due(500, x.mark(3, 2));
        due(0, x.mark(4, 3));
        due(15, x.mark(5, 3));
        says("(what a KIND has not is not looked at).");
        due(0, x.walker(0, LEAST, MOST));
        due(1, x.walker(0, MOST, LEAST));
        due(2, x.walker(1, 3, LEAST));
        due(3, x.walker(1, 3, MOST));
        due(4, x.walker(3, 0, LEAST));
        due(5, x.walker(3, 0, MOST));
        due(60, x.told(0, 1));
        due(20, x.told(3, 1));
        says("BAD; FULL.");
        x.net(3);
        for (int bad : new int[] {-1, 4, MOST, LEAST}) refused(BAD, () -> x.walker(bad, 1, 1));
        for (int bad : new int[] {0, 7, -1, MOST, LEAST}) {
            refused(BAD, () -> x.walker(1, bad, 1));
            refused(BAD, () -> x.walker(2, bad, 1));
        }
        for (int bad : new int[] {0, 501, -1, MOST, LEAST}) refused(BAD, () -> x.walker(2, 1, bad));
        for (int bad : new int[] {3, 16, -1, MOST, LEAST}) refused(BAD, () -> x.walker(3, bad, 1));
        due(0, x.count(4));
        for (int w = 0; w < 8; w++) due(w, x.walker(0, 0, 0));
        refused(FULL, () -> x.walker(0, 0, 0));
        refused(FULL, () -> x.walker(1, 6, 0));
        refused(FULL, () -> x.walker(2, 1, 500));
        refused(FULL, () -> x.walker(3, 2, 0));
        refused(BAD, () -> x.walker(4, 0, 0));
        refused(BAD, () -> x.walker(-1, 0, 0));
        refused(BAD, () -> x.walker(1, 7, 0));
        refused(BAD, () -> x.walker(2, 1, 501));
        refused(BAD, () -> x.walker(3, 3, 0));
        // who is sent home leaves no room
        x.home(7);
        x.home(0);
        refused(FULL, () -> x.walker(0, 0, 0));
    }

    private static void home() {
        promise(15);
        says("A WALKER is sent home: 1.");
        for (int w = 0; w < 8; w++) x.walker(3, 0, 0);
        due(1, x.home(7));
        due(1, x.home(0));
        due(8, x.count(4));
        due(6, x.count(5));
        due(-3, x.told(7, 0));
        due(3, x.told(6, 0));
        // neither lost nor without a plan is a reason to stay
        x.lose(1, true);
        due(1, x.home(1));
        fresh();
        fence(1);
        x.walker(0, 0, 0);
        plan(0, 0, 0, 1);
        due(1, x.seen(0));
        due(1, x.home(0));
        due(0, x.seen(0));
        due(1, x.joint());
        due(1, x.walker(0, 0, 0));
        due(0, x.told(1, 4));
        says("BAD; NOTHING.");
        crew();
        for (int bad : new int[] {-1, 5, 7, 8, MOST, LEAST}) refused(BAD, () -> x.home(bad));
        found(NOTHING, () -> x.home(4));
        x.home(0);
        found(NOTHING, () -> x.home(0));
    }

    private static void view() {
        promise(16);
        says("VIEW of a WALKER: what it was.");
        fence(30, 10, 1);
        x.walker(3, 0, 0);
        due(0, x.view(0, 40));
        due(40, x.told(0, 2));
        // 40 are seen, 41 are not
        due(3, x.seen(0));
        due(7, x.asked());
        due(40, x.view(0, 39));
        due(2, x.seen(0));
        due(39, x.view(0, 30));
        due(2, x.seen(0));
        due(30, x.view(0, 29));
        due(1, x.seen(0));
        due(29, x.view(0, 0));
        due(1, x.seen(0));
        due(0, x.view(0, 0));
        says("BAD; NOTHING.");
        crew();
        x.view(0, 5);
        for (int bad : new int[] {-1, 5, 8, MOST, LEAST}) refused(BAD, () -> x.view(bad, 1));
        for (int bad : new int[] {-1, 41, MOST, LEAST}) {
            refused(BAD, () -> x.view(0, bad));
            refused(BAD, () -> x.view(4, bad));
        }
        found(NOTHING, () -> x.view(4, 0));
        found(NOTHING, () -> x.view(4, 40));
    }

    private static void lose() {
        promise(17);
        says("A WALKER is LOST, or not: 1 if it was.");
        crew();
        due(4, x.count(5));
        for (int w = 0; w < 4; w++) {
            due(0, x.lose(w, false));
            due(0, x.lose(w, true));
            due(0, x.told(w, 5));
            due(1, x.lose(w, true));
            due(3, x.count(5));
            due(1, x.lose(w, false));
            due(0, x.lose(w, false));
            due(1, x.told(w, 5));
        }
        says("BAD; NOTHING.");
        crew();
        x.lose(0, true);
        for (int bad : new int[] {-1, 5, 8, MOST, LEAST}) {
            refused(BAD, () -> x.lose(bad, true));
            refused(BAD, () -> x.lose(bad, false));
        }
        found(NOTHING, () -> x.lose(4, true));
        found(NOTHING, () -> x.lose(4, false));
    }

    private static void told() {
        promise(18);
        says("Of a WALKER: 0 its KIND,");
        crew();
        for (int w = 0; w < 4; w++) due(w, x.told(w, 0));
        says("1 how many PARTS a unit takes (0: a GUARD),");
        int[] parts = {60, 30, 20, 15, 12, 10};
        for (int speed = 1; speed <= 6; speed++) due(parts[speed - 1], x.told(x.walker(1, speed, 0), 1));
        due(60, x.told(x.walker(0, 6, 0), 1));
        due(0, x.told(x.walker(3, 0, 0), 1));
        fresh();
        for (int speed = 1; speed <= 6; speed++) due(parts[speed - 1], x.told(x.walker(2, speed, 9), 1));
        says("2 VIEW, 3 LOST (1, 0),");
        crew();
        for (int w = 0; w < 4; w++) {
            due(0, x.told(w, 2));
            due(0, x.told(w, 3));
            x.view(w, 40 - w);
            x.lose(w, true);
            due(40 - w, x.told(w, 2));
            due(1, x.told(w, 3));
        }
        says("4 how many POSTS its PLAN has (0: none),");
        crew();
        due(4, x.told(2, 4));
        due(0, x.told(3, 4));
        plan(0, 0, 0, 1);
        due(2, x.told(0, 4));
        put(0, 0, 1, 0, 1, 0, 1, 0, 1, 0, 1, 0, 1, 0, 1, 0, 1, 0, 1, 0, 1, 0, 1, 0, 1);
        x.plan(0, 0, NONE, 0);
        due(24, x.told(0, 4));
        x.unplan(0);
        due(0, x.told(0, 4));
        says("5 whether it GOES (1, 0),");
        crew();
        for (int w = 0; w < 4; w++) due(1, x.told(w, 5));
        x.base(0, false);
        int[] withoutBase = {1, 1, 0, 1};
        for (int w = 0; w < 4; w++) due(withoutBase[w], x.told(w, 5));
        x.breaks(0, 1, true);
        int[] broken = {0, 0, 0, 1};
        for (int w = 0; w < 4; w++) due(broken[w], x.told(w, 5));
        x.net(1);
        for (int w = 0; w < 4; w++) due(0, x.told(w, 5));
    }

    private static void toldLimits() {
        promise(18);
        says("6 PERIOD (NONE: it does not GO).");
        crew();
        int[] periods = {720, 360, 240, 1};
        for (int w = 0; w < 4; w++) due(periods[w], x.told(w, 6));
        for (int w = 0; w < 4; w++) {
            x.lose(w, true);
            due(NONE, x.told(w, 6));
        }
        x.lose(0, false);
        x.unplan(0);
        due(NONE, x.told(0, 6));
        // the shortest and the longest that there are: a joint above 14400 is none of its business
        fence(1);
        x.walker(1, 6, 0);
        plan(5, 14399, 0, 1);
        due(20, x.told(5, 6));
        fence(30);
        fill(0, 24, 127);
        put(1, 0, 1, 0, 1, 0, 1, 0, 1, 0, 1, 0, 1, 0, 1, 0, 1, 0, 1, 0, 1, 0, 1, 0, 1);
        x.plan(0, 1, 0, 0);
        due(46248, x.told(0, 6));
        due(1, x.told(0, 5));
        says("BAD; NOTHING.");
        crew();
        for (int bad : new int[] {-1, 5, 8, MOST, LEAST}) refused(BAD, () -> x.told(bad, 0));
        for (int bad : new int[] {-1, 7, MOST, LEAST}) {
            refused(BAD, () -> x.told(0, bad));
            refused(BAD, () -> x.told(4, bad));
        }
        for (int what = 0; what <= 6; what++) {
            int asked = what;
            found(NOTHING, () -> x.told(4, asked));
        }
    }

    private static void mark() {
        promise(19);
        says("What a WALKER that IS of a KIND tells: a RUNNER (a RIDER, too) its SPEED, a RIDER its FUEL, a GUARD its POST,");
        crew();
        due(2, x.mark(1, 1));
        due(3, x.mark(2, 1));
        due(12, x.mark(2, 2));
        due(1, x.mark(3, 3));
        // whatever else it is
        x.net(1);
        x.lose(3, true);
        due(1, x.mark(3, 3));
        says("any (0) its START (NONE: no PLAN).");
        crew();
        for (int w = 0; w < 3; w++) due(10 * w, x.mark(w, 0));
        due(NONE, x.mark(3, 0));
        plan(0, 14399, 0, 1);
        due(14399, x.mark(0, 0));
        x.unplan(0);
        due(NONE, x.mark(0, 0));
        plan(0, 0, 0, 1);
        due(0, x.mark(0, 0));
        says("BAD: also the KIND; NOTHING;");
        crew();
        for (int bad : new int[] {-1, 5, 8, MOST, LEAST}) refused(BAD, () -> x.mark(bad, 0));
        for (int bad : new int[] {-1, 4, MOST, LEAST}) {
            refused(BAD, () -> x.mark(0, bad));
            refused(BAD, () -> x.mark(4, bad));
        }
        for (int kind = 0; kind <= 3; kind++) {
            int asked = kind;
            found(NOTHING, () -> x.mark(4, asked));
        }
        says("UNLIKE.");
        crew();
        boolean[][] is = {{true, false, false, false}, {true, true, false, false}, {true, true, true, false}, {true, false, false, true}};
        for (int w = 0; w < 4; w++) {
            for (int kind = 0; kind <= 3; kind++) {
                int who = w;
                int asked = kind;
                if (!is[w][kind]) found(UNLIKE, () -> x.mark(who, asked));
                else due(1, x.mark(w, kind) == FINDING ? 0 : 1);
            }
        }
    }

    private static void plan() {
        promise(20);
        says("A WALKER's PLAN: a ROW's bytes as POSTS, another one's as RESTS (NONE: no RESTS; below 0 is 0; bytes that lack are 0), "
            + "from START on: how many POSTS.");
        fence(1, 1);
        x.walker(0, 0, 0);
        put(0, 0, 1, 2, 1);
        put(1, 127, -1, -128);
        due(4, x.plan(0, 0, 1, 0));
        int[] rests = {127, 0, 0, 0};
        int[] posts = {0, 1, 2, 1};
        for (int i = 0; i < 4; i++) {
            due(posts[i], x.planned(0, i, false));
            due(rests[i], x.planned(0, i, true));
        }
        due(240 + 127, x.told(0, 6));
        due(0, x.mark(0, 0));
        // no rests: those of the plan before are gone
        due(4, x.plan(0, 0, NONE, 14399));
        for (int i = 0; i < 4; i++) due(0, x.planned(0, i, true));
        due(14399, x.mark(0, 0));
        // no byte, more bytes than posts, and one row for both
        x.row(2, 0);
        due(4, x.plan(0, 0, 2, 1));
        for (int i = 0; i < 4; i++) due(0, x.planned(0, i, true));
        fill(2, 40, 3);
        due(4, x.plan(0, 0, 2, 1));
        for (int i = 0; i < 4; i++) due(3, x.planned(0, i, true));
        due(4, x.plan(0, 0, 0, 1));
        for (int i = 0; i < 4; i++) due(posts[i], x.planned(0, i, true));
        // what becomes of the rows later does not matter
        x.lay(0, 1, 2);
        x.tear(0);
        for (int i = 0; i < 4; i++) due(posts[i], x.planned(0, i, false));
        // a post that there is not now is fine, and a shorter plan takes the place of a longer one
        put(0, 14, 15);
        due(2, x.plan(0, 0, NONE, 1));
        due(2, x.told(0, 4));
        due(15, x.planned(0, 1, false));
        found(BEYOND, () -> x.planned(0, 2, false));
        says("BAD: also START;");
        fence(1, 1);
        x.walker(0, 0, 0);
        x.walker(3, 0, 0);
        x.walker(0, 0, 0);
        plan(0, 33, 0, 1, 2, 1);
        x.home(2);
        for (int bad : new int[] {-1, 14400, MOST, LEAST}) {
            refused(BAD, () -> x.plan(0, 6, NONE, bad));
            refused(BAD, () -> x.plan(2, 6, NONE, bad));
            refused(BAD, () -> x.plan(1, 6, NONE, bad));
        }
        for (int bad : new int[] {-1, 3, 8, MOST, LEAST}) refused(BAD, () -> x.plan(bad, 6, NONE, 0));
        for (int bad : new int[] {-1, 8, NONE, MOST, LEAST}) refused(BAD, () -> x.plan(0, bad, NONE, 0));
        for (int bad : new int[] {-1, 8, -8, -10, MOST, LEAST}) refused(BAD, () -> x.plan(0, 6, bad, 0));
    }

    private static void planSizes() {
        promise(20);
        says("NOTHING: the WALKER, either ROW; UNLIKE: a GUARD;");
        fence(1, 1);
        x.walker(0, 0, 0);
        x.walker(3, 0, 0);
        x.walker(0, 0, 0);
        plan(0, 33, 0, 1, 2, 1);
        x.home(2);
        put(0, 3);
        found(NOTHING, () -> x.plan(2, 6, NONE, 0));
        found(NOTHING, () -> x.plan(0, 1, NONE, 0));
        found(NOTHING, () -> x.plan(0, 6, 1, 0));
        found(NOTHING, () -> x.plan(1, 1, NONE, 0));
        found(NOTHING, () -> x.plan(1, 6, 1, 0));
        found(NOTHING, () -> x.plan(0, 0, 1, 0));
        found(UNLIKE, () -> x.plan(1, 6, NONE, 0));
        found(UNLIKE, () -> x.plan(1, 6, 6, 14399));
        found(UNLIKE, () -> x.plan(1, 0, NONE, 0));
        says("SIZE: fewer than 2 or more than 24;");
        fence(1, 1);
        x.walker(0, 0, 0);
        plan(0, 33, 0, 1, 2, 1);
        x.row(0, 0);
        x.row(1, 1);
        fill(2, 25, 3);
        fill(3, 40, 99);
        for (int r = 0; r < 4; r++) {
            int row = r;
            found(SIZE, () -> x.plan(0, row, NONE, 0));
        }
        put(1, 99);
        found(SIZE, () -> x.plan(0, 1, NONE, 0));
        put(0, 0, 1, 0, 1, 0, 1, 0, 1, 0, 1, 0, 1, 0, 1, 0, 1, 0, 1, 0, 1, 0, 1, 0, 1);
        due(24, x.plan(0, 0, NONE, 0));
        put(0, 0, 1);
        due(2, x.plan(0, 0, NONE, 0));
        says("BEYOND: two alike one behind the other, or one that is not 0 .. 15.");
        fence(1, 1);
        x.walker(0, 0, 0);
        plan(0, 33, 0, 1, 2, 1);
        int[][] beyond = {{0, 0}, {1, 1, 2}, {0, 1, 1, 2}, {0, 1, 2, 2}, {0, 1, 0}, {0, 1, 2, 0}, {0, 16}, {16, 0}, {0, -1},
            {-1, 0}, {0, 1, 127}, {-128, 1}, {0, 16, 1, 2}};
        for (int[] posts : beyond) {
            put(0, posts);
            found(BEYOND, () -> x.plan(0, 0, NONE, 0));
        }
        put(0, 0, 15);
        due(2, x.plan(0, 0, NONE, 0));
        put(0, 15, 0, 15, 1);
        due(4, x.plan(0, 0, NONE, 0));
    }

    private static void unplan() {
        promise(21);
        says("A WALKER has no PLAN: how many POSTS it had.");
        crew();
        due(4, x.unplan(0));
        due(0, x.unplan(0));
        due(1, x.fit(0));
        due(0, x.told(0, 5));
        due(0, x.unplan(3));
        due(1, x.told(3, 5));
        put(0, 0, 1, 0, 1, 0, 1, 0, 1, 0, 1, 0, 1, 0, 1, 0, 1, 0, 1, 0, 1, 0, 1, 0, 1);
        x.plan(1, 0, NONE, 0);
        due(24, x.unplan(1));
        plan(1, 0, 0, 1);
        due(2, x.unplan(1));
        says("BAD; NOTHING.");
        crew();
        for (int bad : new int[] {-1, 5, 8, MOST, LEAST}) refused(BAD, () -> x.unplan(bad));
        found(NOTHING, () -> x.unplan(4));
    }

    private static void planned() {
        promise(22);
        says("POST i of a PLAN (rests: its REST).");
        crew();
        rested(0, 0, new int[] {2, 1, 0, 1}, 1, 127, 0, 5);
        int[] posts = {2, 1, 0, 1};
        int[] rests = {1, 127, 0, 5};
        for (int i = 0; i < 4; i++) {
            due(posts[i], x.planned(0, i, false));
            due(rests[i], x.planned(0, i, true));
        }
        says("BAD; NOTHING; BEYOND.");
        crew();
        for (int bad : new int[] {-1, 5, 8, MOST, LEAST}) {
            refused(BAD, () -> x.planned(bad, 0, false));
            refused(BAD, () -> x.planned(bad, -1, true));
        }
        found(NOTHING, () -> x.planned(4, 0, false));
        found(NOTHING, () -> x.planned(4, -1, true));
        for (int bad : new int[] {-1, 4, 24, MOST, LEAST}) {
            found(BEYOND, () -> x.planned(0, bad, false));
            found(BEYOND, () -> x.planned(0, bad, true));
        }
        // without a plan there is no place in it
        x.unplan(0);
        found(BEYOND, () -> x.planned(0, 0, false));
        found(BEYOND, () -> x.planned(3, 0, true));
    }

    private static void fit() {
        promise(23);
        says("Whether a PLAN is FIT: 0; or why not, the first of these:");
        crew();
        for (int w = 0; w < 3; w++) due(0, x.fit(w));
        x.lose(0, true);
        due(0, x.fit(0));
        says("1 no PLAN (a GUARD, too), 2 a POST that there is not, 3 no WALL, 4 a WALL that is BROKEN,");
        x.net(4);
        x.wall(0, 1, 2);
        x.wall(1, 2, 3);
        x.walker(0, 0, 0);
        x.walker(3, 0, 0);
        due(1, x.fit(0));
        due(1, x.fit(1));
        x.breaks(1, 2, true);
        // broken, no wall and no post in one plan, wherever they stand in it
        plan(0, 0, 1, 2, 0, 4);
        due(2, x.fit(0));
        plan(0, 0, 4, 0, 2, 1);
        due(2, x.fit(0));
        plan(0, 0, 0, 15);
        due(2, x.fit(0));
        plan(0, 0, 1, 2, 0);
        due(3, x.fit(0));
        plan(0, 0, 0, 3, 1, 2);
        due(3, x.fit(0));
        plan(0, 0, 0, 1, 2, 1);
        due(4, x.fit(0));
        x.breaks(1, 2, false);
        due(0, x.fit(0));
        // from the last one to the first one, too
        plan(0, 0, 0, 1, 2);
        due(3, x.fit(0));
        x.wall(2, 0, 1);
        due(0, x.fit(0));
        x.breaks(0, 2, true);
        due(4, x.fit(0));
        says("5 no BASE (RIDER), 6 too little FUEL (RIDER).");
        ring(3, 4, 5);
        x.walker(2, 1, 12);
        x.walker(2, 1, 11);
        x.walker(1, 1, 1);
        x.base(1, true);
        for (int w = 0; w < 3; w++) plan(w, 0, 0, 1, 2);
        due(0, x.fit(0));
        due(6, x.fit(1));
        due(0, x.fit(2));
        x.base(1, false);
        due(5, x.fit(0));
        due(5, x.fit(1));
        due(0, x.fit(2));
        // broken comes ahead of both
        x.breaks(0, 1, true);
        due(4, x.fit(0));
        x.base(2, true);
        due(4, x.fit(1));
        x.breaks(0, 1, false);
        due(0, x.fit(0));
        due(6, x.fit(1));
        // with bases at 2 and 0: 3 + 4 units at most
        x.base(0, true);
        due(0, x.fit(1));
        says("BAD; NOTHING.");
        crew();
        for (int bad : new int[] {-1, 5, 8, MOST, LEAST}) refused(BAD, () -> x.fit(bad));
        found(NOTHING, () -> x.fit(4));
    }

    private static void where() {
        promise(24);
        says("Where a WALKER that GOES is at a time (0 .. 100000):");
        fence(2, 4);
        x.walker(1, 2, 0);
        x.walker(3, 2, 0);
        rested(0, 14399, new int[] {0, 1}, 7, 3);
        // 130 parts round, begun at 14399 = 99 + 130 * 110: so at 99, too, and each 130 parts before and behind it
        due(0, x.where(0, 99, 0));
        due(0, x.where(0, 99, 2));
        due(1, x.where(0, 98, 0));
        due(59, x.where(0, 98, 2));
        due(0, x.where(0, 99 + 130 * 768, 0));
        due(0, x.where(0, 99 + 130 * 768, 2));
        // at 0: 130 - 99 = 31 into a round, 24 behind the rest of 7
        due(0, x.where(0, 0, 0));
        due(1, x.where(0, 0, 1));
        due(24, x.where(0, 0, 2));
        // at 100000: 100000 - 99 - 130 * 768 = 61 into a round
        due(0, x.where(0, 100000, 0));
        due(1, x.where(0, 100000, 1));
        due(54, x.where(0, 100000, 2));
        due(2, x.where(1, 0, 0));
        due(2, x.where(1, 100000, 0));
        says("POST, that at which it is or from which it comes (what = 0), the next POST on its way (1; itself, if it is at a POST), "
            + "how many PARTS ago it went from that POST (2; 0: it is there).");
        fence(2, 4);
        x.walker(1, 2, 0);
        x.walker(3, 2, 0);
        rested(0, 0, new int[] {0, 1, 2}, 7);
        due(3, x.fit(0));
        rested(0, 0, new int[] {0, 1, 2, 1}, 7, 0, 3);
        // 0: 0 to 7; 1: 67; 2: 187 to 190; 1: 310; once round: 370
        int[][] rows = {{0, 0, 0, 0}, {7, 0, 0, 0}, {8, 0, 1, 1}, {66, 0, 1, 59}, {67, 1, 1, 0}, {68, 1, 2, 1}, {186, 1, 2, 119},
            {187, 2, 2, 0}, {190, 2, 2, 0}, {191, 2, 1, 1}, {309, 2, 1, 119}, {310, 1, 1, 0}, {311, 1, 0, 1}, {369, 1, 0, 59},
            {370, 0, 0, 0}, {377, 0, 0, 0}, {378, 0, 1, 1}};
        for (int[] r : rows) for (int what = 0; what <= 2; what++) due(r[what + 1], x.where(0, r[0], what));
        for (int time : new int[] {0, 1, 100000}) {
            due(2, x.where(1, time, 0));
            due(2, x.where(1, time, 1));
            due(0, x.where(1, time, 2));
        }
    }

    private static void whereRefusals() {
        promise(24);
        says("BAD; NOTHING; STATE: it does not GO. (STATE behind NOTHING.)");
        crew();
        for (int bad : new int[] {-1, 5, 8, MOST, LEAST}) refused(BAD, () -> x.where(bad, 0, 0));
        for (int bad : new int[] {-1, 100001, MOST, LEAST}) {
            refused(BAD, () -> x.where(0, bad, 0));
            refused(BAD, () -> x.where(4, bad, 0));
        }
        for (int bad : new int[] {-1, 3, MOST, LEAST}) {
            refused(BAD, () -> x.where(0, 0, bad));
            refused(BAD, () -> x.where(4, 0, bad));
        }
        found(NOTHING, () -> x.where(4, 0, 0));
        x.lose(0, true);
        refused(STATE, () -> x.where(0, 0, 0));
        x.unplan(1);
        refused(STATE, () -> x.where(1, 0, 0));
        refused(BAD, () -> x.where(1, -1, 0));
        refused(BAD, () -> x.where(1, 0, 3));
        x.base(0, false);
        refused(STATE, () -> x.where(2, 0, 0));
        x.net(1);
        refused(STATE, () -> x.where(3, 0, 0));
        // one that did not go before it was sent home is missing all the same
        x.home(0);
        found(NOTHING, () -> x.where(0, 0, 0));
        found(NOTHING, () -> x.where(0, 100000, 2));
    }
}
