/** The document's "Terms", sentence by sentence: limits on both sides, what is refused first, what comes round. */
public final class TermsEdgesTest extends Checks {
    public static void main(String[] args) {
        refusals();
        refusalsKeepState();
        findings();
        fractionsAndSets();
        rows();
        ground();
        groundKinds();
        far();
        posts();
        walkers();
        speeds();
        plans();
        planTimes();
        fit();
        fitRider();
        goes();
        seen();
        joint();
        idle();
        worst();
        thief();
        peril();
        meeting();
        word();
        round();
        parting();
        end("the terms");
    }

    private static int[] all(int n, int v) {
        int[] a = new int[n];
        java.util.Arrays.fill(a, v);
        return a;
    }

    // ---- what is refused

    private static void refusals() {
        terms();
        says("Refused is, the first of these that fits, in this order: BAD -1 (a number that is none, or not as told), FULL -2, "
            + "STATE -4 (not now), SPENT -6 (more than told), FINDING -3 (finding() tells which), unless a call says so otherwise.");
        due(-1, WallWalkers.BAD);
        due(-2, WallWalkers.FULL);
        due(-3, WallWalkers.FINDING);
        due(-4, WallWalkers.STATE);
        due(-6, WallWalkers.SPENT);
        // BAD ahead of FULL
        for (int w = 0; w < 8; w++) x.walker(0, 0, 0);
        refused(BAD, () -> x.walker(3, 1, 0));
        refused(FULL, () -> x.walker(3, 0, 0));
        // BAD ahead of STATE and of a FINDING
        refused(BAD, () -> x.where(0, -1, 0));
        refused(STATE, () -> x.where(0, 0, 0));
        refused(BAD, () -> x.copy(0, 0, 8, 0, -1));
        found(NOTHING, () -> x.copy(0, 0, 7, 0, -1));
        // BAD ahead of SPENT
        fresh();
        brim(1);
        refused(BAD, () -> x.idle(5));
        refused(SPENT, () -> x.idle(4));
        // where a call says so: a finding ahead of STATE and of SPENT, and STATE ahead of SPENT
        x.walker(0, 0, 0);
        x.walker(0, 0, 0);
        x.walker(3, 0, 0);
        x.home(2);
        found(NOTHING, () -> x.where(2, 0, 0));
        found(NOTHING, () -> x.word(2, 0, 1));
        refused(STATE, () -> x.word(1, 0, 3));
        refused(SPENT, () -> x.word(3, 0, 3));
        x.net(1);
        found(UNLIKE, () -> x.parting());
        says("NONE -9.");
        due(-9, WallWalkers.NONE);
        due(-9, x.idle(0));
    }

    private static void refusalsKeepState() {
        terms();
        says("What is refused changes nothing but finding(), findings().");
        fence(2, 3);
        x.walker(1, 2, 0);
        x.walker(3, 2, 0);
        plan(0, 7, 0, 1, 2, 1);
        x.seen(0);
        x.share(1);
        x.parting();
        x.tear(0);
        x.row(3, 0);
        found(NOTHING, () -> x.tear(0));
        found(BEYOND, () -> x.lay(3, 0, 1));
        found(UNLIKE, () -> x.wall(0, 2, 1));
        found(NOUGHT, () -> x.mean(3));
        found(SIZE, () -> x.row(7, -1));
        refused(BAD, () -> x.row(7, 41));
        refused(BAD, () -> x.fence(8, true));
        refused(BAD, () -> x.net(17));
        refused(BAD, () -> x.worth(0, 10));
        refused(BAD, () -> x.base(3, true));
        refused(BAD, () -> x.view(0, 41));
        refused(BAD, () -> x.seen(100001));
        refused(BAD, () -> x.share(3));
        refused(BAD, () -> x.peril(4));
        for (int w = 2; w < 8; w++) x.walker(0, 0, 0);
        refused(FULL, () -> x.walker(0, 0, 0));
        refused(STATE, () -> x.meet(0, 2, 0));
    }

    private static void findings() {
        terms();
        says("FINDINGS: 1 NOTHING (a ROW, a WALKER that is missing), 2 BEYOND (a place that there is not), "
            + "3 UNLIKE (a WALKER, a GROUND of another KIND), 4 NOUGHT (shared among none), "
            + "5 SIZE (fewer than none; a ROW that is too short, or too long).");
        x.walker(3, 0, 0);
        x.walker(0, 0, 0);
        x.home(1);
        found(1, () -> x.mean(0));
        found(1, () -> x.told(1, 0));
        x.row(0, 0);
        found(2, () -> x.lay(0, 0, 0));
        found(3, () -> x.mark(0, 1));
        found(3, () -> x.parting());
        found(4, () -> x.mean(0));
        found(5, () -> x.row(1, -1));
        found(5, () -> x.fence(0, false));
        fill(0, 17, 1);
        found(5, () -> x.fence(0, true));
    }

    private static void fractionsAndSets() {
        terms();
        says("Fractions are told by upper() and lower(), in lowest terms, the lower number above 0 (0 by 1).");
        fraction(0, 1);
        x.share(0);
        fraction(0, 1);
        x.walker(3, 0, 0);
        x.share(0);
        fraction(1, 1);
        x.meet(0, 0, 0);
        x.word(0, 0, 0);
        fraction(0, 1);
        x.chance(0, 1);
        fraction(0, 1);
        fence(2);
        x.walker(0, 0, 0);
        rested(1, 0, new int[] {0, 1}, 0, 59);
        x.lose(0, true);
        // 60 of 299; with one more rest 60 of 300
        x.share(1);
        fraction(60, 299);
        rested(1, 0, new int[] {0, 1}, 1, 59);
        x.share(1);
        fraction(1, 5);
        says("Sets are told by bits.");
        x.net(16);
        x.walker(3, 15, 0);
        x.walker(3, 0, 0);
        x.walker(3, 4, 0);
        x.seen(0);
        due(1 << 15 | 1 | 1 << 4, x.asked());
        for (int p = 0; p < 16; p++) x.worth(p, 0);
        x.worth(4, 1);
        due(NONE, x.peril(1));
        due(1 << 2, x.asked());
        for (int w = 3; w < 8; w++) x.walker(3, 4, 0);
        x.home(2);
        x.home(3);
        x.home(4);
        due(NONE, x.peril(3));
        due(1 << 5 | 1 << 6 | 1 << 7, x.asked());
    }

    // ---- rows, the ground

    private static void rows() {
        terms();
        says("1 ROWS 0 .. 7 are rows of 0 to 40 bytes, or missing (at first).");
        for (int i = 0; i < 8; i++) {
            int r = i;
            found(NOTHING, () -> x.lay(r, 0, 0));
        }
        due(0, x.row(0, 0));
        due(40, x.row(7, 40));
        due(1000, x.lay(7, 39, 0));
        refused(BAD, () -> x.row(-1, 0));
        refused(BAD, () -> x.row(8, 0));
        refused(BAD, () -> x.row(7, 41));
        found(SIZE, () -> x.row(0, -1));
    }

    private static void ground() {
        terms();
        says("THE GROUND has POSTS 0 .. P - 1 (1 .. 16) and WALLS (40 at most; none twice) of two POSTS with a length (1 .. 30).");
        due(1, x.net(1));
        refused(BAD, () -> x.net(0));
        refused(BAD, () -> x.worth(1, 1));
        due(16, x.net(16));
        refused(BAD, () -> x.net(17));
        due(1, x.worth(15, 1));
        refused(BAD, () -> x.worth(16, 1));
        refused(BAD, () -> x.worth(-1, 1));
        due(1, x.wall(0, 1, 1));
        due(2, x.wall(15, 0, 30));
        refused(BAD, () -> x.wall(0, 2, 0));
        refused(BAD, () -> x.wall(0, 2, 31));
        refused(BAD, () -> x.wall(1, 0, 1));
        refused(BAD, () -> x.wall(5, 5, 1));
        for (int i = 3; i <= 40; i++) {
            int a = 1 + i % 13;
            due(i, x.wall(a, (a + 1 + i / 13) % 15 + 1, 7));
        }
        refused(FULL, () -> x.wall(0, 14, 1));
    }

    private static void groundKinds() {
        terms();
        says("It is a FENCE (0: POSTS in a row, WALLS from each to the next one), a RING (1: and from the last one to the first one) "
            + "or a NET (2: any).");
        fence(1, 2, 3);
        due(0, x.count(0));
        due(4, x.count(1));
        due(3, x.count(2));
        due(6, x.far(0, 3));
        found(NOTHING, () -> x.breaks(0, 3, true));
        ring(1, 2, 3);
        due(1, x.count(0));
        due(3, x.count(1));
        due(0, x.breaks(2, 0, true));
        due(3, x.far(2, 0));
        x.net(3);
        due(2, x.count(0));
        due(NONE, x.far(0, 1));
        due(1, x.wall(2, 0, 5));
        due(5, x.far(0, 2));
        says("At first it is a NET of one POST.");
        due(2, x.count(0));
        due(1, x.count(1));
        due(0, x.count(2));
        refused(BAD, () -> x.far(0, 1));
    }

    private static void far() {
        terms();
        says("A WALL may be BROKEN (it is not walked then; FAR takes no notice of it).");
        ring(1, 1, 1, 1);
        x.walker(0, 0, 0);
        plan(0, 0, 0, 1);
        due(1, x.told(0, 5));
        due(0, x.breaks(0, 1, true));
        due(0, x.told(0, 5));
        due(3, x.far(0, 1));
        x.breaks(0, 1, false);
        due(1, x.told(0, 5));
        due(1, x.far(1, 0));
        says("FAR of two POSTS: the least sum of lengths of WALLS that are not BROKEN from one to the other one.");
        x.net(6);
        x.wall(0, 5, 30);
        for (int p = 0; p < 5; p++) x.wall(p, p + 1, 6);
        // 30 by one wall, 5 times 6 by five
        due(30, x.far(0, 5));
        x.breaks(2, 3, true);
        due(30, x.far(0, 5));
        due(12 + 30 + 12, x.far(2, 3));
        x.breaks(2, 3, false);
        x.breaks(0, 5, true);
        due(30, x.far(5, 0));
        x.breaks(4, 5, true);
        due(NONE, x.far(0, 5));
        due(NONE, x.far(5, 4));
        due(0, x.far(5, 5));
        due(24, x.far(0, 4));
    }

    private static void posts() {
        terms();
        says("A POST has a WORTH (0 .. 9; 1 at first; 0: it needs no watch), and may be a BASE (not at first).");
        x.net(2);
        due(1, x.worth(0, 9));
        due(9, x.worth(0, 0));
        refused(BAD, () -> x.worth(0, 10));
        refused(BAD, () -> x.worth(0, -1));
        due(0, x.base(0, true));
        due(1, x.base(0, false));
        // post 0 needs no watch: it is neither the worst nor a thief's, and no round leads over it
        due(1, x.worst());
        due(1, x.thief(1));
        due(1, x.roundAt(0));
        x.worth(1, 0);
        due(NONE, x.worst());
        due(NONE, x.thief(1));
        due(NONE, x.roundAt(0));
    }

    // ---- walkers

    private static void walkers() {
        terms();
        says("TIME is told in PARTS.");
        fence(1);
        x.walker(0, 0, 0);
        plan(0, 0, 0, 1);
        due(120, x.told(0, 6));
        says("WALKERS 0, 1, .. (8 at most ever; those that are sent home are missing) are of a KIND:");
        for (int w = 0; w < 8; w++) due(w, x.walker(0, 0, 0));
        x.home(2);
        x.home(7);
        refused(FULL, () -> x.walker(0, 0, 0));
        found(NOTHING, () -> x.told(2, 0));
        found(NOTHING, () -> x.told(7, 0));
        due(0, x.told(3, 0));
        refused(BAD, () -> x.told(8, 0));
        refused(BAD, () -> x.told(-1, 0));
        fresh();
        // a number that was never given is none
        x.walker(0, 0, 0);
        refused(BAD, () -> x.told(1, 0));
        says("Each has a VIEW (0 .. 40; 0 at first), and may be LOST.");
        for (int kind = 0; kind <= 3; kind++) {
            int w = x.walker(kind, kind == 3 ? 0 : 1, 1);
            due(0, x.view(w, 40));
            due(40, x.view(w, 0));
            refused(BAD, () -> x.view(w, 41));
            refused(BAD, () -> x.view(w, -1));
            due(0, x.lose(w, true));
            due(1, x.lose(w, false));
        }
    }

    private static void speeds() {
        terms();
        says("0 WALKER (one unit of a WALL takes 60 PARTS), 1 RUNNER (a WALKER: 60 by its SPEED, 1 to 6), "
            + "2 RIDER (a RUNNER, with FUEL for 1 to 500 units), 3 GUARD (a WALKER that stands at a POST).");
        fence(7, 30);
        x.base(0, true);
        x.walker(0, 0, 0);
        plan(0, 0, 0, 1);
        due(840, x.told(0, 6));
        for (int speed = 1; speed <= 6; speed++) {
            int w = x.walker(speed % 2 + 1, speed, 14);
            plan(w, 0, 0, 1);
            due(840 / speed, x.told(w, 6));
        }
        int guard = x.walker(3, 1, 0);
        due(1, x.told(guard, 6));
        due(1, x.where(guard, 0, 0));
        due(1, x.where(guard, 100000, 1));
        fresh();
        refused(BAD, () -> x.walker(1, 0, 1));
        refused(BAD, () -> x.walker(1, 7, 1));
        refused(BAD, () -> x.walker(2, 0, 1));
        refused(BAD, () -> x.walker(2, 7, 1));
        refused(BAD, () -> x.walker(2, 6, 0));
        refused(BAD, () -> x.walker(2, 6, 501));
        refused(BAD, () -> x.walker(4, 1, 1));
        refused(BAD, () -> x.walker(-1, 1, 1));
        due(0, x.walker(2, 6, 500));
        due(1, x.walker(2, 1, 1));
    }

    private static void plans() {
        terms();
        says("A PLAN of a WALKER: 2 to 24 POSTS one behind the other, each unlike the one before it (the first one unlike the last), "
            + "walked over and over;");
        fence(1, 1);
        x.walker(0, 0, 0);
        put(0, 0, 1);
        due(2, x.plan(0, 0, NONE, 0));
        put(0, 0);
        found(SIZE, () -> x.plan(0, 0, NONE, 0));
        put(0, 0, 1, 0, 1, 0, 1, 0, 1, 0, 1, 0, 1, 0, 1, 0, 1, 0, 1, 0, 1, 0, 1, 0, 1);
        due(24, x.plan(0, 0, NONE, 0));
        put(0, 0, 1, 0, 1, 0, 1, 0, 1, 0, 1, 0, 1, 0, 1, 0, 1, 0, 1, 0, 1, 0, 1, 0, 1, 2);
        found(SIZE, () -> x.plan(0, 0, NONE, 0));
        put(0, 0, 0, 1);
        found(BEYOND, () -> x.plan(0, 0, NONE, 0));
        put(0, 1, 0, 0);
        found(BEYOND, () -> x.plan(0, 0, NONE, 0));
        put(0, 1, 0, 1);
        found(BEYOND, () -> x.plan(0, 0, NONE, 0));
        plan(0, 0, 0, 1);
        for (int round = 0; round <= 833; round += 119) due(0, x.where(0, 120 * round, 0));
        for (int round = 0; round <= 832; round += 104) due(1, x.where(0, 120 * round + 60, 0));
        says("a REST of so many PARTS (0 .. 127) at each;");
        fence(1);
        x.walker(0, 0, 0);
        rested(0, 0, new int[] {0, 1}, 127, 0);
        due(127, x.planned(0, 0, true));
        due(0, x.planned(0, 1, true));
        due(0, x.where(0, 127, 2));
        due(1, x.where(0, 128, 2));
        due(1, x.where(0, 187, 0));
        due(0, x.where(0, 187, 2));
        due(1, x.where(0, 188, 2));
        rested(0, 0, new int[] {0, 1}, 128, -1);
        due(0, x.planned(0, 0, true));
        due(0, x.planned(0, 1, true));
    }

    private static void planTimes() {
        terms();
        says("it is at its first POST, beginning its REST there, at a time START (0 .. 14399), and has walked so before, too, for ever.");
        fence(1);
        x.walker(0, 0, 0);
        put(0, 0, 1);
        put(1, 10);
        due(2, x.plan(0, 0, 1, 0));
        due(0, x.where(0, 10, 2));
        due(1, x.where(0, 11, 2));
        due(2, x.plan(0, 0, 1, 14399));
        refused(BAD, () -> x.plan(0, 0, 1, 14400));
        refused(BAD, () -> x.plan(0, 0, 1, -1));
        due(0, x.where(0, 14409, 2));
        due(1, x.where(0, 14410, 2));
        due(1, x.where(0, 14398, 0));
        due(59, x.where(0, 14398, 2));
        // 14399 is 99 behind 110 rounds of 130
        due(0, x.where(0, 99, 0));
        due(0, x.where(0, 99, 2));
        due(59, x.where(0, 98, 2));
        says("PERIOD: how many PARTS once round takes.");
        fence(1, 2);
        x.walker(1, 4, 0);
        x.walker(3, 0, 0);
        rested(0, 0, new int[] {0, 1, 2, 1}, 1, 2, 3, 4);
        due(15 * 6 + 10, x.told(0, 6));
        due(1, x.told(1, 6));
        rested(0, 0, new int[] {0, 1, 2, 1}, 127, 127, 127, 127);
        due(15 * 6 + 508, x.told(0, 6));
    }

    private static void fit() {
        terms();
        says("A PLAN is FIT, if all POSTS there are, a WALL that is not BROKEN leads from each to the next one "
            + "(and from the last to the first);");
        x.walker(0, 0, 0);
        plan(0, 0, 0, 1, 2);
        due(2, x.fit(0));
        x.net(2);
        due(2, x.fit(0));
        x.net(3);
        due(3, x.fit(0));
        x.wall(0, 1, 1);
        due(3, x.fit(0));
        x.wall(1, 2, 1);
        due(3, x.fit(0));
        x.wall(0, 2, 1);
        due(0, x.fit(0));
        x.breaks(2, 0, true);
        due(4, x.fit(0));
        x.breaks(2, 0, false);
        x.breaks(0, 1, true);
        due(4, x.fit(0));
        x.breaks(0, 1, false);
        due(0, x.fit(0));
    }

    private static void fitRider() {
        terms();
        says("of a RIDER also: it has a BASE, and from BASE to next BASE (round) no more than its FUEL is walked.");
        fence(20, 30);
        x.walker(2, 1, 100);
        x.walker(2, 1, 99);
        x.walker(2, 1, 60);
        x.walker(2, 1, 59);
        x.walker(1, 1, 1);
        for (int w = 0; w < 5; w++) plan(w, 0, 0, 1, 2, 1);
        int[] noBase = {5, 5, 5, 5, 0};
        for (int w = 0; w < 5; w++) due(noBase[w], x.fit(w));
        x.base(0, true);
        int[] once = {0, 6, 6, 6, 0};
        for (int w = 0; w < 5; w++) due(once[w], x.fit(w));
        // 40 units from 1 over 0 to 1, round, and 60 over 2
        x.base(0, false);
        x.base(1, true);
        int[] twice = {0, 0, 0, 6, 0};
        for (int w = 0; w < 5; w++) due(twice[w], x.fit(w));
        x.base(2, true);
        for (int w = 0; w < 5; w++) due(0, x.fit(w));
    }

    private static void goes() {
        terms();
        says("A WALKER GOES, if it is not LOST, and is a GUARD (whose POST there is; PERIOD 1), or has a PLAN that is FIT.");
        x.net(2);
        x.walker(3, 1, 0);
        x.walker(0, 0, 0);
        due(1, x.told(0, 5));
        due(1, x.told(0, 6));
        x.net(1);
        due(0, x.told(0, 5));
        x.net(2);
        due(1, x.told(0, 5));
        x.lose(0, true);
        due(0, x.told(0, 5));
        x.lose(0, false);
        due(0, x.told(1, 5));
        plan(1, 0, 0, 1);
        due(0, x.told(1, 5));
        x.wall(0, 1, 1);
        due(1, x.told(1, 5));
        x.lose(1, true);
        due(0, x.told(1, 5));
        x.lose(1, false);
        due(2, x.count(5));
        x.home(1);
        due(1, x.count(5));
    }

    // ---- what is seen

    private static void seenIs(int time, int set) {
        due(Integer.bitCount(set), x.seen(time));
        due(set, x.asked());
    }

    private static void seen() {
        terms();
        says("2 SEEN is a POST in a PART (t to t + 1), if a WALKER that GOES is at a POST at time t (it comes there just then, "
            + "rests there then, or goes from there just then) from which it is FAR no more than its VIEW.");
        fence(3, 4);
        x.walker(0, 0, 0);
        rested(0, 1, new int[] {0, 1}, 2, 0);
        // at post 0 from 1 to 3, at post 1 at 183, and round in 362
        int[] times = {0, 1, 2, 3, 4, 182, 183, 184, 362, 363, 365, 366};
        int[] sets = {0, 1, 1, 1, 0, 0, 2, 0, 0, 1, 1, 0};
        for (int i = 0; i < times.length; i++) seenIs(times[i], sets[i]);
        x.view(0, 2);
        seenIs(1, 1);
        x.view(0, 3);
        seenIs(1, 3);
        seenIs(183, 3);
        x.view(0, 4);
        seenIs(183, 7);
        seenIs(1, 3);
        // between two posts it sees nothing, however far it sees
        x.view(0, 40);
        seenIs(4, 0);
        seenIs(182, 0);
        // FAR: over a broken wall nothing is seen
        x.breaks(1, 2, true);
        seenIs(183, 3);
        x.lose(0, true);
        seenIs(183, 0);
    }

    private static void joint() {
        terms();
        says("JOINT: the least common multiple of the PERIODS of all that GO (none: 1); above 14400: SPENT.");
        due(1, x.joint());
        fence(20, 24, 7);
        x.walker(0, 0, 0);
        x.walker(0, 0, 0);
        x.walker(3, 0, 0);
        plan(0, 0, 0, 1);
        due(2400, x.joint());
        plan(1, 0, 1, 2);
        due(14400, x.joint());
        plan(1, 0, 2, 3);
        due(SPENT, x.joint());
        fresh();
        brim(0);
        due(14400, x.joint());
        fresh();
        brim(1);
        due(SPENT, x.joint());
        x.lose(0, true);
        due(1, x.joint());
        says("All that is SEEN comes round with it.");
        fence(1, 2);
        x.walker(1, 6, 0);
        x.walker(1, 6, 0);
        plan(0, 7, 0, 1);
        rested(1, 3, new int[] {1, 2}, 10);
        // 20 and 50: 100
        due(100, x.joint());
        for (int time = 0; time < 100; time += 7) {
            x.seen(time);
            int set = x.asked();
            seenIs(time + 100, set);
            seenIs(time + 99900, set);
        }
        seenIs(7, 3);
        seenIs(100000, 0);
        seenIs(99913, 2);
    }

    private static void idle() {
        terms();
        says("IDLE of a POST: the most PARTS in a row (round) in which it is not SEEN (0: it always is); a POST that is never SEEN has none.");
        fence(1, 1);
        x.walker(1, 6, 0);
        rested(0, 5, new int[] {0, 1}, 3);
        // post 0 in parts 5 to 8 of 23, post 1 in part 18
        due(19, x.idle(0));
        due(9, x.idleFrom(0));
        due(22, x.idle(1));
        due(19, x.idleFrom(1));
        due(NONE, x.idle(2));
        x.walker(3, 2, 0);
        due(0, x.idle(2));
        // two rows: the longer one counts, wherever it stands
        fresh();
        fence(1);
        x.walker(1, 6, 0);
        x.walker(1, 6, 0);
        plan(0, 0, 0, 1);
        plan(1, 15, 0, 1);
        due(14, x.idle(0));
        due(1, x.idleFrom(0));
        plan(1, 4, 0, 1);
        due(15, x.idle(0));
        due(5, x.idleFrom(0));
        plan(1, 0, 0, 1);
        due(19, x.idle(0));
        says("LOAD: its WORTH times its IDLE.");
        fence(1);
        x.walker(1, 6, 0);
        plan(0, 0, 0, 1);
        x.worth(0, 0);
        x.worth(1, 9);
        due(1, x.worst());
        due(171, x.asked());
    }

    private static void worst() {
        terms();
        says("THE WORST: the POST with a WORTH above 0 that is never SEEN, the least such; if there is none, that with the greatest LOAD, "
            + "the least of alike ones.");
        fence(1, 1, 1);
        due(0, x.worst());
        x.walker(1, 6, 0);
        plan(0, 0, 0, 1);
        due(2, x.worst());
        x.worth(3, 9);
        due(2, x.worst());
        x.worth(2, 0);
        due(3, x.worst());
        due(NONE, x.asked());
        x.worth(3, 0);
        due(0, x.worst());
        x.worth(0, 2);
        x.worth(1, 3);
        due(1, x.worst());
        due(57, x.asked());
        x.worth(0, 3);
        due(0, x.worst());
    }

    private static void thief() {
        terms();
        says("A THIEF who needs n PARTS (1 .. 14400) at a POST gets through, if he begins with a PART from which on it is not SEEN "
            + "in n of them.");
        fence(1);
        x.walker(1, 6, 0);
        plan(0, 0, 0, 1);
        refused(BAD, () -> x.chance(0, 0));
        refused(BAD, () -> x.chance(0, 14401));
        refused(BAD, () -> x.thief(0));
        refused(BAD, () -> x.thief(14401));
        due(1, x.chance(0, 19));
        fraction(1, 20);
        due(1, x.chance(0, 20));
        fraction(0, 1);
        due(NONE, x.thief(20));
        due(19, x.safe());
        says("CHANCE: with how many of JOINT PARTS he may begin so, by JOINT (never SEEN: 1).");
        fence(1, 1);
        x.walker(1, 6, 0);
        x.walker(1, 6, 0);
        plan(0, 0, 0, 1);
        plan(1, 8, 0, 1);
        // rows of 7 and 11 parts of 20
        int[] needs = {1, 2, 3, 7, 8, 11, 12};
        int[] tops = {9, 4, 7, 3, 1, 1, 0};
        int[] bottoms = {10, 5, 10, 10, 5, 20, 1};
        for (int i = 0; i < needs.length; i++) {
            due(1, x.chance(0, needs[i]));
            fraction(tops[i], bottoms[i]);
        }
        due(1, x.chance(2, 14400));
        fraction(1, 1);
    }

    private static void peril() {
        terms();
        says("PERIL with k LOST (0 .. 3): the greatest LOAD of THE WORST over all sets of k of the WALKERS that GO (fewer go: all of them), "
            + "if these were LOST;");
        fence(1);
        int[] starts = {0, 5, 10, 15};
        for (int w = 0; w < 4; w++) {
            x.walker(1, 6, 0);
            plan(w, starts[w], 0, 1);
        }
        refused(BAD, () -> x.peril(-1));
        refused(BAD, () -> x.peril(4));
        int[] loads = {4, 9, 14, 19};
        int[] sets = {0, 1, 3, 7};
        for (int k = 0; k <= 3; k++) {
            due(loads[k], x.peril(k));
            due(sets[k], x.asked());
        }
        x.worth(1, 9);
        due(9 * 14, x.peril(2));
        // who is lost already, or goes nowhere, is in no set
        x.lose(0, true);
        x.unplan(1);
        due(9 * 19, x.peril(1));
        due(4, x.asked());
        due(NONE, x.peril(2));
        due(12, x.asked());
        due(NONE, x.peril(3));
        due(12, x.asked());
        says("0, if no POST has a WORTH.");
        x.worth(0, 0);
        for (int k = 0; k <= 3; k++) due(0, x.peril(k));
        x.walker(3, 0, 0);
        for (int k = 0; k <= 3; k++) due(0, x.peril(k));
        x.worth(0, 1);
        due(0, x.peril(0));
        due(NONE, x.peril(1));
    }

    // ---- meetings, rounds, partings

    private static void meeting() {
        terms();
        says("3 MEETING of two WALKERS that GO: the first time from a time on (0 .. 14399) at which both are at one place, "
            + "a POST or one on a WALL (a fraction; NONE: not within JOINT of the two PARTS).");
        fence(1);
        x.walker(1, 1, 0);
        x.walker(1, 2, 0);
        x.walker(3, 1, 0);
        plan(0, 0, 0, 1);
        plan(1, 0, 1, 0);
        refused(BAD, () -> x.meet(0, 1, -1));
        refused(BAD, () -> x.meet(0, 1, 14400));
        due(1, x.meet(0, 1, 0));
        fraction(20, 1);
        due(1, x.meet(0, 1, 20));
        fraction(20, 1);
        due(1, x.meet(0, 1, 21));
        fraction(60, 1);
        due(1, x.meet(0, 2, 61));
        fraction(180, 1);
        due(1, x.meet(0, 2, 14399));
        fraction(14460, 1);
        plan(1, 10, 1, 0);
        due(1, x.meet(0, 1, 0));
        fraction(80, 3);
        // two walls from one post: they meet at it alone, if at all
        fence(1, 1);
        plan(0, 0, 0, 1);
        plan(1, 0, 2, 1);
        due(NONE, x.meet(0, 1, 0));
        plan(1, 30, 2, 1);
        due(1, x.meet(0, 1, 0));
        fraction(60, 1);
    }

    private static void word() {
        terms();
        says("A WORD that one has at a time comes to others as they MEET it, at a MEETING, not before: each has it from the earliest such time on.");
        fence(1, 1);
        x.walker(3, 0, 0);
        x.walker(0, 0, 0);
        x.walker(0, 0, 0);
        x.walker(3, 2, 0);
        // 1 is at post 0 at 0, at post 1 at 60; 2 is at post 1 at 0 and 120, at post 2 at 60
        plan(1, 0, 0, 1);
        rested(2, 0, new int[] {1, 2}, 60, 0);
        due(1, x.word(0, 0, 1));
        fraction(0, 1);
        due(1, x.word(0, 0, 2));
        fraction(60, 1);
        due(1, x.word(0, 0, 3));
        fraction(120, 1);
        // 1 met 2 at 60, but 0's word of time 61 comes to 1 at 120 and to 2, who is at post 1 from 180 to 240, at 180
        due(1, x.word(0, 61, 1));
        fraction(120, 1);
        due(1, x.word(0, 61, 2));
        fraction(180, 1);
        due(1, x.word(0, 61, 3));
        fraction(300, 1);
        due(4, x.spread(0, 61));
        x.lose(1, true);
        due(NONE, x.word(0, 61, 3));
        due(1, x.spread(0, 61));
        due(2, x.spread(2, 0));
    }

    private static void round() {
        terms();
        says("A ROUND: the shortest way, by FAR, that leads from a POST over all POSTS with a WORTH above 0 back to it (10 of them at most): "
            + "its length.");
        fence(all(9, 1));
        due(18, x.round());
        fence(all(10, 1));
        refused(STATE, () -> x.round());
        x.worth(0, 0);
        due(18, x.round());
        x.worth(0, 1);
        x.worth(10, 0);
        due(18, x.round());
        // by FAR: a wall that is longer than the way round it is not taken
        x.net(3);
        x.wall(0, 1, 30);
        x.wall(1, 2, 1);
        x.wall(2, 0, 1);
        due(4, x.round());
        x.worth(2, 0);
        due(4, x.round());
        x.breaks(1, 2, true);
        due(60, x.round());
    }

    private static void parting() {
        terms();
        says("A PARTING of a FENCE among WALKERS (no GUARDS; not LOST; 5 at most, the least ones): each gets POSTS from one to another one "
            + "in a row, or none; each POST is one's alone; the ORDER in which they stand is any.");
        fence(1, 1, 1);
        x.walker(3, 0, 0);
        x.walker(0, 0, 0);
        x.walker(0, 0, 0);
        x.lose(2, true);
        due(360, x.parting());
        due(0, x.partOf(1, false));
        due(3, x.partOf(1, true));
        due(NONE, x.partOf(0, false));
        due(NONE, x.partOf(2, false));
        x.lose(2, false);
        due(120, x.parting());
        for (int w = 3; w < 8; w++) x.walker(1, 6, 0);
        // 1 to 5 share: 0 for each of four posts
        due(0, x.parting());
        due(NONE, x.partOf(5, true));
        fence(all(9, 1));
        due(40, x.parting());
        due(NONE, x.partOf(6, true));
        due(NONE, x.partOf(7, true));
        fence(all(6, 1));
        // seven posts among two slow ones and three of speed 6: one each for the slow ones
        due(20, x.parting());
        says("It takes one 2 times 60 by its SPEED by the units between his first and last POST.");
        fence(7, 8);
        x.walker(1, 4, 0);
        due(2 * 15 * 15, x.parting());
        says("THE BEST PARTING: that in which the longest time is least (BROKEN WALLS may not be inside).");
        fence(4, 1, 5);
        x.walker(0, 0, 0);
        x.walker(0, 0, 0);
        due(600, x.parting());
        due(2, x.partOf(0, true));
        x.breaks(0, 1, true);
        due(720, x.parting());
        due(0, x.partOf(0, true));
        due(1, x.partOf(1, false));
        x.breaks(2, 3, true);
        refused(STATE, () -> x.parting());
        x.breaks(0, 1, false);
        due(600, x.parting());
    }
}
