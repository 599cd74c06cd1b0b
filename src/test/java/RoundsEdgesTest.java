/** Promises 38 to 42, sentence by sentence: the empty and the full round, partings that are as good, fuel that just does. */
public final class RoundsEdgesTest extends Checks {
    public static void main(String[] args) {
        round();
        roundAt();
        roundAtNow();
        parting();
        partingSharers();
        partingRefusals();
        partOf();
        partOfAlike();
        fuel();
        fuelRefusals();
        end("promises 38 to 42");
    }

    private static int[] all(int n, int v) {
        int[] a = new int[n];
        java.util.Arrays.fill(a, v);
        return a;
    }

    private static void order(int... posts) {
        for (int i = 0; i < posts.length; i++) due(posts[i], x.roundAt(i));
        due(NONE, x.roundAt(posts.length));
    }

    private static void round() {
        promise(38);
        says("A ROUND's length (0: fewer than two POSTS with a WORTH);");
        due(0, x.round());
        x.worth(0, 0);
        due(0, x.round());
        fence(30);
        due(60, x.round());
        x.worth(1, 0);
        due(0, x.round());
        x.worth(0, 0);
        due(0, x.round());
        // one post with a worth that no wall leads to is no more than one
        x.net(2);
        x.worth(1, 0);
        due(0, x.round());
        x.worth(0, 0);
        x.worth(1, 9);
        due(0, x.round());
        // ten of them are fine: to and fro, or round
        fence(all(9, 30));
        due(540, x.round());
        ring(all(10, 30));
        due(300, x.round());
        x.breaks(0, 9, true);
        due(540, x.round());
        // the posts between need no worth: 0 and 15 of a fence of 450 units
        fence(all(15, 30));
        for (int p = 1; p < 15; p++) x.worth(p, 0);
        due(900, x.round());
        says("NONE: not all can be come to.");
        x.net(2);
        due(NONE, x.round());
        x.wall(0, 1, 1);
        due(2, x.round());
        x.breaks(0, 1, true);
        due(NONE, x.round());
        x.net(10);
        due(NONE, x.round());
        for (int p = 0; p < 8; p++) x.wall(p, p + 1, 1);
        due(NONE, x.round());
        x.worth(9, 0);
        due(16, x.round());
        says("STATE: more than 10 POSTS with a WORTH.");
        fence(all(10, 1));
        refused(STATE, () -> x.round());
        x.worth(5, 0);
        due(20, x.round());
        fence(all(15, 1));
        refused(STATE, () -> x.round());
        for (int p = 0; p < 5; p++) x.worth(p, 0);
        refused(STATE, () -> x.round());
        x.worth(15, 0);
        due(18, x.round());
        // ahead of NONE
        x.net(11);
        refused(STATE, () -> x.round());
        x.worth(0, 0);
        due(NONE, x.round());
    }

    private static void roundAt() {
        promise(39);
        says("POST i of that ROUND in which POSTS with a WORTH are come to first, of those that are as short: from the least of them on, "
            + "the first such (POST by POST);");
        order(0);
        fence(1);
        order(0, 1);
        x.worth(0, 0);
        order(1);
        // both ways round are as short
        ring(1, 1, 1, 1);
        order(0, 1, 2, 3);
        ring(all(10, 3));
        order(0, 1, 2, 3, 4, 5, 6, 7, 8, 9);
        // a ring in the order 0 2 4 1 3: that way, not 0 3 1 4 2
        x.net(5);
        x.wall(0, 2, 5);
        x.wall(2, 4, 5);
        x.wall(4, 1, 5);
        x.wall(1, 3, 5);
        x.wall(3, 0, 5);
        order(0, 2, 4, 1, 3);
        // from the least with a worth on
        ring(1, 1, 1, 1, 1);
        x.worth(0, 0);
        x.worth(2, 0);
        order(1, 3, 4);
        due(5, x.round());
        // a shorter one that comes first by no number: 0 to 3 is near, 0 to 1 is far
        x.net(4);
        x.wall(0, 3, 1);
        x.wall(3, 1, 1);
        x.wall(1, 2, 1);
        x.wall(2, 0, 1);
        x.wall(0, 1, 30);
        x.wall(2, 3, 30);
        due(4, x.round());
        order(0, 2, 1, 3);
        says("NONE: none such.");
        ring(1, 1, 1);
        for (int i : new int[] {-1, 3, 10, MOST, LEAST}) due(NONE, x.roundAt(i));
        due(2, x.roundAt(2));
        x.worth(0, 0);
        x.worth(1, 0);
        due(2, x.roundAt(0));
        due(NONE, x.roundAt(1));
        x.worth(2, 0);
        due(NONE, x.roundAt(0));
        // no round leads over all of them
        x.net(2);
        due(NONE, x.roundAt(0));
        due(NONE, x.roundAt(1));
    }

    private static void roundAtNow() {
        promise(39);
        says("(By THE GROUND as it is now; STATE: as round().)");
        // each two of four are one unit apart
        x.net(4);
        for (int p = 0; p < 4; p++) {
            for (int q = p + 1; q < 4; q++) x.wall(p, q, 1);
        }
        due(4, x.round());
        order(0, 1, 2, 3);
        x.breaks(1, 2, true);
        order(0, 1, 3, 2);
        x.breaks(0, 1, true);
        due(NONE, x.roundAt(4));
        x.breaks(1, 3, true);
        due(NONE, x.roundAt(0));
        x.breaks(1, 2, false);
        x.breaks(0, 1, false);
        order(0, 1, 2, 3);
        x.worth(0, 0);
        due(1, x.roundAt(0));
        due(NONE, x.roundAt(3));
        x.worth(1, 0);
        order(2, 3);
        fence(2);
        order(0, 1);
        x.net(11);
        refused(STATE, () -> x.roundAt(0));
        refused(STATE, () -> x.roundAt(10));
        refused(STATE, () -> x.roundAt(11));
        refused(STATE, () -> x.roundAt(-1));
        refused(STATE, () -> x.roundAt(LEAST));
        x.worth(10, 0);
        due(NONE, x.roundAt(0));
    }

    private static void parting() {
        promise(40);
        says("THE BEST PARTING: the longest time.");
        fence(1);
        x.walker(0, 0, 0);
        due(120, x.parting());
        x.walker(0, 0, 0);
        due(0, x.parting());
        x.walker(0, 0, 0);
        due(0, x.parting());
        // 450 units by one of speed 1; by five: three walls each, and none between them
        fresh();
        fence(all(15, 30));
        x.walker(0, 0, 0);
        due(54000, x.parting());
        for (int w = 1; w < 4; w++) x.walker(0, 0, 0);
        due(10800, x.parting());
        x.walker(0, 0, 0);
        due(10800, x.parting());
        fence(all(14, 30));
        due(7200, x.parting());
        // each speed: 2 times 60 by it, by the units
        for (int speed = 1; speed <= 6; speed++) {
            fresh();
            fence(1, 6);
            x.walker(speed % 2 == 0 ? 1 : 2, speed, 1);
            due(7 * 120 / speed, x.parting());
        }
        // the order is any: the slow one has the last post, the fast one all before it
        fresh();
        fence(1, 3, 3);
        x.walker(0, 0, 0);
        x.walker(1, 6, 0);
        due(80, x.parting());
        due(0, x.partOf(1, false));
        due(2, x.partOf(1, true));
        due(3, x.partOf(0, false));
    }

    private static void partingSharers() {
        promise(40);
        says("THE BEST PARTING: the longest time.");
        // five at most, the least ones: a sixth of speed 6 gets nothing
        fence(all(5, 1));
        for (int w = 0; w < 5; w++) x.walker(0, 0, 0);
        due(120, x.parting());
        x.walker(1, 6, 0);
        due(120, x.parting());
        due(NONE, x.partOf(5, false));
        // who is lost or sent home makes room for him
        x.lose(2, true);
        due(20, x.parting());
        x.lose(2, false);
        due(120, x.parting());
        x.home(4);
        due(20, x.parting());
        // a guard takes no room
        fresh();
        fence(all(5, 1));
        x.walker(3, 0, 0);
        x.walker(3, 1, 0);
        for (int w = 2; w < 7; w++) x.walker(0, 0, 0);
        due(120, x.parting());
        due(NONE, x.partOf(0, false));
        due(NONE, x.partOf(1, true));
        x.walker(1, 6, 0);
        due(120, x.parting());
        due(NONE, x.partOf(7, false));
    }

    private static void partingRefusals() {
        promise(40);
        says("STATE: no such WALKERS, or a BROKEN WALL that can't be left out;");
        fence(1, 1, 1);
        refused(STATE, () -> x.parting());
        x.walker(3, 0, 0);
        refused(STATE, () -> x.parting());
        x.walker(0, 0, 0);
        due(360, x.parting());
        x.lose(1, true);
        refused(STATE, () -> x.parting());
        x.lose(1, false);
        x.breaks(1, 2, true);
        refused(STATE, () -> x.parting());
        x.walker(0, 0, 0);
        due(120, x.parting());
        x.breaks(0, 1, true);
        refused(STATE, () -> x.parting());
        x.walker(0, 0, 0);
        due(120, x.parting());
        x.home(1);
        refused(STATE, () -> x.parting());
        x.breaks(0, 1, false);
        due(120, x.parting());
        x.home(2);
        x.home(3);
        refused(STATE, () -> x.parting());
        // four that are broken are left out by five, a fifth is not
        fresh();
        fence(all(10, 2));
        for (int w = 0; w < 6; w++) x.walker(0, 0, 0);
        for (int p = 0; p < 8; p += 2) x.breaks(p, p + 1, true);
        due(720, x.parting());
        x.breaks(8, 9, true);
        refused(STATE, () -> x.parting());
        says("UNLIKE: no FENCE. (UNLIKE ahead.)");
        found(UNLIKE, () -> x.parting());
        x.walker(0, 0, 0);
        found(UNLIKE, () -> x.parting());
        ring(1, 1, 1);
        found(UNLIKE, () -> x.parting());
        x.lose(0, true);
        found(UNLIKE, () -> x.parting());
        fence(1, 1);
        refused(STATE, () -> x.parting());
        x.lose(0, false);
        due(240, x.parting());
        // a net that looks like a fence is none
        x.net(2);
        x.wall(0, 1, 1);
        found(UNLIKE, () -> x.parting());
    }

    private static void part(int w, int first, int last) {
        due(first, x.partOf(w, false));
        due(last, x.partOf(w, true));
    }

    private static void partOf() {
        promise(41);
        says("The first (last: the last) POST of a WALKER in THE BEST PARTING of the latest parting() that was not refused;");
        fence(1, 5, 1);
        x.walker(0, 0, 0);
        x.walker(0, 0, 0);
        due(120, x.parting());
        part(0, 0, 1);
        part(1, 2, 3);
        // whatever comes, it stays, until the next one that is not refused
        x.breaks(0, 1, true);
        x.breaks(2, 3, true);
        due(STATE, x.parting());
        part(0, 0, 1);
        part(1, 2, 3);
        x.net(1);
        due(FINDING, x.parting());
        x.home(1);
        x.lose(0, true);
        part(0, 0, 1);
        part(1, 2, 3);
        fence(2);
        part(1, 2, 3);
        x.lose(0, false);
        due(240, x.parting());
        part(0, 0, 1);
        part(1, NONE, NONE);
        says("NONE: it has none.");
        for (int w = 0; w < 8; w++) part(w, NONE, NONE);
        fence(1);
        for (int w = 0; w < 8; w++) x.walker(0, 0, 0);
        due(0, x.parting());
        part(0, 0, 0);
        part(1, 1, 1);
        for (int w = 2; w < 8; w++) part(w, NONE, NONE);
        says("BAD: not 0 .. 7.");
        fence(1);
        x.walker(0, 0, 0);
        x.parting();
        for (int bad : new int[] {-1, 8, MOST, LEAST}) {
            refused(BAD, () -> x.partOf(bad, false));
            refused(BAD, () -> x.partOf(bad, true));
        }
        due(NONE, x.partOf(7, true));
    }

    private static void partOfAlike() {
        promise(41);
        says("of those that are as good that by which the first POSTS belong to the least WALKER, and so on from POST to POST;");
        // all parts within 240: the first one takes as many posts as he may, then the next one
        fence(2, 2, 2, 2, 1);
        for (int w = 0; w < 3; w++) x.walker(0, 0, 0);
        due(240, x.parting());
        part(0, 0, 1);
        part(1, 2, 3);
        part(2, 4, 5);
        fence(1, 1, 2);
        due(120, x.parting());
        part(0, 0, 1);
        part(1, 2, 2);
        part(2, 3, 3);
        // two cuts are as good: the least one goes on as far as he may
        x.home(2);
        fence(3, 3);
        due(360, x.parting());
        part(0, 0, 1);
        part(1, 2, 2);
        fence(3, 1, 3);
        due(360, x.parting());
        part(0, 0, 1);
        part(1, 2, 3);
        // only what is as good is looked at: with the slow one behind the fast one it would be longer
        fresh();
        fence(4, 1);
        x.walker(1, 2, 0);
        x.walker(0, 0, 0);
        due(60, x.parting());
        part(1, 0, 0);
        part(0, 1, 2);
        fence(1, 4, 2);
        due(120, x.parting());
        // 0 with posts 0 and 1 leaves 2 units to the slow one, 240: so it is the slow one who begins
        part(1, 0, 1);
        part(0, 2, 3);
        fence(2, 4, 1);
        due(120, x.parting());
        part(0, 0, 1);
        part(1, 2, 3);
        // a guard has no part, though his number is the least
        fresh();
        fence(1, 1);
        for (int w = 0; w < 3; w++) x.walker(3 - 3 * Math.min(w, 1), 0, 0);
        due(120, x.parting());
        part(0, NONE, NONE);
        part(1, 0, 1);
        part(2, 2, 2);
        // sixteen posts, five of speeds 2 to 6: within 80 parts they can have 2, 3, 3, 4 and 5 posts, one more than there are
        fresh();
        fence(all(15, 1));
        for (int w = 0; w < 5; w++) x.walker(1, 2 + w, 0);
        due(80, x.parting());
        int[] firsts = {0, 2, 5, 8, 12, 16};
        for (int w = 0; w < 5; w++) part(w, firsts[w], firsts[w + 1] - 1);
        due(80, x.parting());
        // the same the other way round
        for (int w = 0; w < 3; w++) x.home(w);
        for (int w = 5; w < 8; w++) x.walker(1, 9 - w, 0);
        due(80, x.parting());
        int[] back = {0, 4, 9, 12, 15, 16};
        for (int w = 3; w < 8; w++) part(w, back[w - 3], back[w - 2] - 1);
        // a broken wall of one unit is left out as any other one is: behind a unit, and where the next but one could go on
        fresh();
        fence(1, 1, 1);
        x.walker(0, 0, 0);
        x.walker(0, 0, 0);
        x.breaks(1, 2, true);
        due(120, x.parting());
        part(0, 0, 1);
        part(1, 2, 3);
        fence(5, 1, 1);
        x.walker(1, 6, 0);
        x.breaks(1, 2, true);
        x.breaks(2, 3, true);
        due(100, x.parting());
        part(2, 0, 1);
        part(0, 2, 2);
        part(1, 3, 3);
        // a broken wall parts them where else one would go on
        fresh();
        fence(1, 1);
        for (int w = 0; w < 3; w++) x.walker(3 - 3 * Math.min(w, 1), 0, 0);
        x.breaks(0, 1, true);
        due(120, x.parting());
        part(1, 0, 0);
        part(2, 1, 2);
    }

    private static void fuel() {
        promise(42);
        says("The least FUEL with which a PLAN of a WALKER (of any KIND but a GUARD) would do (from BASE to BASE, round);");
        fence(1);
        x.walker(0, 0, 0);
        x.walker(1, 6, 0);
        x.walker(2, 1, 1);
        for (int w = 0; w < 3; w++) plan(w, 0, 0, 1);
        x.base(1, true);
        for (int w = 0; w < 3; w++) due(2, x.fuel(w));
        due(6, x.fit(2));
        x.base(0, true);
        for (int w = 0; w < 3; w++) due(1, x.fuel(w));
        due(0, x.fit(2));
        // the one that is lost, too
        x.lose(2, true);
        due(1, x.fuel(2));
        // one base, come to once in 24 posts of 30 units: more than any rider has
        fence(all(12, 30));
        put(0, 0, 1, 2, 3, 4, 5, 6, 7, 8, 9, 10, 11, 12, 11, 10, 9, 8, 7, 6, 5, 4, 3, 2, 1);
        x.plan(0, 0, NONE, 0);
        x.base(0, true);
        due(720, x.fuel(0));
        x.base(0, false);
        // round: from the last base of the plan over its end to the first one
        x.base(1, true);
        due(660, x.fuel(0));
        x.base(12, true);
        due(330, x.fuel(0));
        x.base(1, false);
        due(720, x.fuel(0));
        x.base(6, true);
        due(360, x.fuel(0));
        says("NONE: it has no BASE.");
        fence(1, 1);
        x.walker(2, 1, 1);
        x.walker(0, 0, 0);
        plan(0, 0, 0, 1);
        plan(1, 0, 0, 1);
        due(NONE, x.fuel(0));
        due(NONE, x.fuel(1));
        // a base that it does not come to is none of its own
        x.base(2, true);
        due(NONE, x.fuel(0));
        x.base(1, true);
        due(2, x.fuel(0));
    }

    private static void fuelRefusals() {
        promise(42);
        says("BAD; NOTHING; STATE: no PLAN, or one that would not be FIT but for FUEL and BASE. (STATE behind NOTHING.)");
        fence(1, 1);
        x.walker(2, 1, 1);
        x.walker(3, 0, 0);
        x.walker(0, 0, 0);
        for (int bad : new int[] {-1, 3, 8, MOST, LEAST}) refused(BAD, () -> x.fuel(bad));
        refused(STATE, () -> x.fuel(0));
        refused(STATE, () -> x.fuel(1));
        refused(STATE, () -> x.fuel(2));
        plan(0, 0, 0, 1, 2, 1);
        due(NONE, x.fuel(0));
        x.breaks(1, 2, true);
        refused(STATE, () -> x.fuel(0));
        x.base(0, true);
        refused(STATE, () -> x.fuel(0));
        x.breaks(1, 2, false);
        due(4, x.fuel(0));
        plan(0, 0, 0, 2);
        refused(STATE, () -> x.fuel(0));
        plan(0, 0, 0, 3);
        refused(STATE, () -> x.fuel(0));
        x.unplan(0);
        refused(STATE, () -> x.fuel(0));
        x.home(0);
        found(NOTHING, () -> x.fuel(0));
        x.home(1);
        found(NOTHING, () -> x.fuel(1));
    }
}
