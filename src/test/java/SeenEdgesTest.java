/** Promises 25 to 34, sentence by sentence: the last that is allowed, the first that is not, what comes round. */
public final class SeenEdgesTest extends Checks {
    public static void main(String[] args) {
        joint();
        jointSpent();
        seen();
        idle();
        idleFrom();
        worst();
        share();
        chance();
        thief();
        safe();
        peril();
        perilNone();
        perilSpent();
        full();
        end("promises 25 to 34");
    }

    /** On a fence of length 1 one of speed 6, 10 parts from post to post, rests at post 0 and comes there at a time. */
    private static void shuttle(int w, int start, int rest) {
        if (w == x.count(4)) x.walker(1, 6, 0);
        rested(w, start, new int[] {0, 1}, rest);
    }

    /** Two that rest 20 of 40 parts at post 0, the second one from a time on. */
    private static void relay(int start) {
        fresh();
        fence(1);
        shuttle(0, 0, 20);
        shuttle(1, start, 20);
    }

    private static void joint() {
        promise(25);
        says("JOINT.");
        due(1, x.joint());
        x.walker(3, 0, 0);
        x.walker(3, 0, 0);
        due(1, x.joint());
        fence(20, 24, 7);
        x.walker(0, 0, 0);
        due(1, x.joint());
        plan(2, 0, 0, 1);
        due(2400, x.joint());
        // 2400 and 2880: 14400
        x.walker(0, 0, 0);
        plan(3, 0, 1, 2);
        due(14400, x.joint());
        x.lose(2, true);
        due(2880, x.joint());
        x.lose(2, false);
        x.home(3);
        due(2400, x.joint());
        x.breaks(0, 1, true);
        due(1, x.joint());
        brimAlone(0);
        due(14400, x.joint());
    }

    private static void brimAlone(int above) {
        fresh();
        brim(above);
    }

    private static void jointSpent() {
        promise(25);
        says("SPENT.");
        brim(1);
        refused(SPENT, () -> x.joint());
        due(1, x.told(0, 5));
        due(14401, x.told(0, 6));
        x.lose(0, true);
        due(1, x.joint());
        fence(20, 24, 7);
        x.walker(0, 0, 0);
        x.walker(0, 0, 0);
        plan(1, 0, 0, 1);
        plan(2, 0, 2, 3);
        // 2400 and 840: 16800
        refused(SPENT, () -> x.joint());
        rested(2, 0, new int[] {1, 2}, 1);
        refused(SPENT, () -> x.joint());
        // eight with great periods that have nothing in common: their product is far beyond a long
        fresh();
        fence(30);
        put(0, 0, 1, 0, 1, 0, 1, 0, 1, 0, 1, 0, 1, 0, 1, 0, 1, 0, 1, 0, 1, 0, 1, 0, 1);
        int[] rests = {1, 7, 11, 23, 37, 61, 101, 127};
        for (int w = 0; w < 8; w++) {
            x.walker(0, 0, 0);
            put(1, rests[w]);
            x.plan(w, 0, 1, 0);
            refused(SPENT, () -> x.joint());
        }
    }

    private static void seen() {
        promise(26);
        says("POSTS that are SEEN in the PART from a time (0 .. 100000) on, told by asked(): how many.");
        due(0, x.seen(0));
        due(0, x.asked());
        int[] ones = new int[15];
        java.util.Arrays.fill(ones, 1);
        fence(ones);
        x.walker(3, 15, 0);
        due(1, x.seen(0));
        due(32768, x.asked());
        due(1, x.seen(100000));
        x.view(0, 15);
        due(16, x.seen(0));
        due(65535, x.asked());
        // a post that needs no watch is seen as well
        x.worth(3, 0);
        due(16, x.seen(7));
        x.view(0, 14);
        due(15, x.seen(7));
        due(65534, x.asked());
        fresh();
        fence(1);
        shuttle(0, 0, 5);
        // 25 parts round: post 0 in parts 0 to 5, post 1 in part 15; 100000 is 4000 rounds
        int[] times = {0, 5, 6, 14, 15, 16, 24, 25, 99999, 100000};
        int[] sets = {1, 1, 0, 0, 2, 0, 0, 1, 0, 1};
        for (int i = 0; i < times.length; i++) {
            due(Integer.bitCount(sets[i]), x.seen(times[i]));
            due(sets[i], x.asked());
        }
        says("BAD; SPENT.");
        brim(0);
        due(1, x.seen(0));
        for (int bad : new int[] {-1, 100001, MOST, LEAST}) refused(BAD, () -> x.seen(bad));
        brim(1);
        refused(SPENT, () -> x.seen(0));
        refused(SPENT, () -> x.seen(100000));
        for (int bad : new int[] {-1, 100001}) refused(BAD, () -> x.seen(bad));
    }

    private static void idle() {
        promise(27);
        says("IDLE of a POST; NONE: it is never SEEN.");
        due(NONE, x.idle(0));
        x.walker(3, 0, 0);
        due(0, x.idle(0));
        x.net(2);
        due(NONE, x.idle(1));
        // 0 to 20 and from 18 on: part 39 is left; from 19 to 21 on: none is; from 22 on: part 21 is
        int[] left = {1, 0, 0, 0, 1};
        for (int i = 0; i < 5; i++) {
            relay(18 + i);
            due(left[i], x.idle(0));
            due(19 + Math.abs(i - 2), x.idle(1));
        }
        brimAlone(0);
        due(14399, x.idle(0));
        due(7199, x.idle(2));
        due(10799, x.idle(1));
        // a guard of the least number, at a post that another one comes to as well
        fresh();
        fence(1);
        x.walker(3, 0, 0);
        shuttle(1, 3, 0);
        due(0, x.idle(0));
        due(19, x.idle(1));
        // one rests at post 0 from 30 to 50, over the end of 40, and the other one comes and goes there within that time
        fresh();
        fence(1);
        shuttle(0, 30, 20);
        x.walker(1, 6, 0);
        rested(1, 5, new int[] {0, 1}, 0, 20);
        due(19, x.idle(0));
        rested(1, 20, new int[] {0, 1}, 0, 20);
        due(9, x.idle(0));
        // what was seen before a view, a plan or a wall was another one is not seen any more
        fresh();
        fence(1, 1);
        shuttle(0, 0, 0);
        x.view(0, 1);
        due(19, x.idle(2));
        x.view(0, 0);
        due(NONE, x.idle(2));
        due(19, x.idle(0));
        plan(0, 0, 1, 2);
        due(NONE, x.idle(0));
        due(19, x.idle(2));
        x.view(0, 1);
        due(19, x.idle(0));
        x.breaks(0, 1, true);
        due(NONE, x.idle(0));
        x.walker(3, 0, 0);
        due(0, x.idle(0));
        x.lose(1, true);
        due(NONE, x.idle(0));
        says("BAD; SPENT.");
        brim(0);
        for (int bad : new int[] {-1, 5, 16, MOST, LEAST}) refused(BAD, () -> x.idle(bad));
        due(14399, x.idle(4));
        brim(1);
        refused(SPENT, () -> x.idle(0));
        refused(SPENT, () -> x.idle(4));
        refused(BAD, () -> x.idle(5));
        refused(BAD, () -> x.idle(-1));
    }

    private static void idleFrom() {
        promise(28);
        says("The first PART (0 .. JOINT - 1) of the first such row of PARTS of a POST (that which begins least);");
        fence(1);
        // 20 parts round: the row begins behind the part in which post 0 is seen
        int[] starts = {0, 1, 17, 18, 19, 20, 14399};
        int[] froms = {1, 2, 18, 19, 0, 1, 0};
        for (int i = 0; i < starts.length; i++) {
            shuttle(0, starts[i], 0);
            due(19, x.idle(0));
            due(froms[i], x.idleFrom(0));
        }
        // twice in 40 parts, alike: that which begins least, not that which goes over the end
        x.net(4);
        x.wall(0, 1, 1);
        x.wall(2, 3, 2);
        x.walker(1, 6, 0);
        plan(1, 0, 2, 3);
        due(40, x.joint());
        int[] twice = {1, 6, 19, 0};
        int[] begun = {0, 5, 18, 19};
        for (int i = 0; i < twice.length; i++) {
            shuttle(0, begun[i], 0);
            due(twice[i], x.idleFrom(0));
        }
        relay(18);
        due(39, x.idleFrom(0));
        relay(22);
        due(21, x.idleFrom(0));
        // a rest that ends with time 0, or goes on over it, though another one comes in that time
        fresh();
        fence(1);
        x.walker(1, 6, 0);
        x.walker(1, 6, 0);
        int[] ends = {39, 0, 1, 10};
        int[] behind = {0, 1, 2, 11};
        for (int i = 0; i < ends.length; i++) {
            shuttle(0, ends[i] + 20, 20);
            rested(1, ends[i] + 35, new int[] {0, 1}, 0, 20);
            due(19, x.idle(0));
            due(behind[i], x.idleFrom(0));
        }
        brimAlone(0);
        due(1, x.idleFrom(0));
        due(7201, x.idleFrom(4));
        rested(0, 14399, new int[] {0, 1, 2, 3, 4, 3, 2, 1});
        due(0, x.idleFrom(0));
        rested(0, 14398, new int[] {0, 1, 2, 3, 4, 3, 2, 1});
        due(14399, x.idleFrom(0));
        says("NONE: IDLE is 0, or it is never SEEN.");
        due(NONE, x.idleFrom(0));
        x.walker(3, 0, 0);
        due(NONE, x.idleFrom(0));
        x.net(2);
        due(NONE, x.idleFrom(1));
        for (int start = 19; start <= 21; start++) {
            relay(start);
            due(NONE, x.idleFrom(0));
        }
        says("BAD; SPENT.");
        brim(0);
        for (int bad : new int[] {-1, 5, 16, MOST, LEAST}) refused(BAD, () -> x.idleFrom(bad));
        brim(1);
        refused(SPENT, () -> x.idleFrom(0));
        refused(SPENT, () -> x.idleFrom(4));
        refused(BAD, () -> x.idleFrom(5));
        refused(BAD, () -> x.idleFrom(-1));
    }

    private static void worst() {
        promise(29);
        says("THE WORST: the POST; its LOAD by asked() (NONE: it is never SEEN);");
        fence(1, 1);
        due(0, x.worst());
        due(NONE, x.asked());
        x.worth(0, 0);
        due(1, x.worst());
        due(NONE, x.asked());
        x.worth(2, 9);
        due(1, x.worst());
        x.worth(1, 0);
        due(2, x.worst());
        x.walker(1, 6, 0);
        plan(0, 0, 0, 1);
        // never seen comes ahead of any load, and a post without a worth is none of its business
        x.worth(0, 9);
        due(2, x.worst());
        due(NONE, x.asked());
        x.worth(2, 0);
        due(0, x.worst());
        due(171, x.asked());
        // alike: the least; one more: that
        x.worth(0, 3);
        x.worth(1, 3);
        due(0, x.worst());
        due(57, x.asked());
        x.worth(1, 4);
        due(1, x.worst());
        due(76, x.asked());
        // all of them are always seen: the least with a worth, and a load of 0
        x.walker(3, 1, 0);
        x.view(1, 1);
        x.worth(0, 0);
        due(1, x.worst());
        due(0, x.asked());
        brimAlone(0);
        x.worth(4, 9);
        due(4, x.worst());
        due(129591, x.asked());
        says("NONE: no POST has a WORTH.");
        fence(1);
        x.worth(1, 0);
        due(0, x.worst());
        x.worth(0, 0);
        due(NONE, x.worst());
        // and asked() stays
        due(NONE, x.asked());
        x.walker(3, 1, 0);
        x.seen(0);
        due(NONE, x.worst());
        due(2, x.asked());
        says("SPENT.");
        brim(0);
        due(0, x.worst());
        due(14399, x.asked());
        brim(1);
        refused(SPENT, () -> x.worst());
        for (int p = 0; p < 5; p++) x.worth(p, 0);
        refused(SPENT, () -> x.worst());
    }

    private static void share() {
        promise(30);
        says("In how many of all PARTS of JOINT a POST is SEEN, by JOINT, told by upper(), lower(): 1.");
        due(1, x.share(0));
        fraction(0, 1);
        x.walker(3, 0, 0);
        due(1, x.share(0));
        fraction(1, 1);
        x.lose(0, true);
        fence(1);
        x.walker(1, 6, 0);
        rested(1, 0, new int[] {0, 1}, 4);
        due(1, x.share(0));
        fraction(5, 24);
        rested(1, 0, new int[] {0, 1}, 5);
        due(1, x.share(0));
        fraction(6, 25);
        rested(1, 0, new int[] {0, 1}, 0, 12);
        due(1, x.share(1));
        fraction(13, 32);
        rested(1, 14399, new int[] {0, 1}, 127, 127);
        due(1, x.share(0));
        fraction(64, 137);
        for (int start = 18; start <= 22; start++) {
            relay(start);
            due(1, x.share(0));
            fraction(start == 18 || start == 22 ? 39 : 1, start == 18 || start == 22 ? 40 : 1);
        }
        brimAlone(0);
        due(1, x.share(0));
        fraction(1, 14400);
        due(1, x.share(1));
        fraction(1, 7200);
        says("BAD; SPENT.");
        brim(0);
        x.share(1);
        for (int bad : new int[] {-1, 5, 16, MOST, LEAST}) refused(BAD, () -> x.share(bad));
        brim(1);
        refused(SPENT, () -> x.share(0));
        refused(SPENT, () -> x.share(4));
        refused(BAD, () -> x.share(5));
        refused(BAD, () -> x.share(-1));
    }

    private static void chance() {
        promise(31);
        says("CHANCE of a THIEF, told by upper(), lower(): 1.");
        due(1, x.chance(0, 1));
        fraction(1, 1);
        due(1, x.chance(0, 14400));
        fraction(1, 1);
        fence(1);
        shuttle(0, 18, 0);
        // 19 parts in a row that go over the end of 20
        int[] needs = {1, 2, 15, 18, 19, 20, 21, 14400};
        int[] tops = {19, 9, 1, 1, 1, 0, 0, 0};
        int[] bottoms = {20, 10, 4, 10, 20, 1, 1, 1};
        for (int i = 0; i < needs.length; i++) {
            due(1, x.chance(0, needs[i]));
            fraction(tops[i], bottoms[i]);
        }
        x.walker(3, 1, 0);
        due(1, x.chance(1, 1));
        fraction(0, 1);
        relay(22);
        due(1, x.chance(0, 1));
        fraction(1, 40);
        due(1, x.chance(0, 2));
        fraction(0, 1);
        brimAlone(0);
        due(1, x.chance(0, 14399));
        fraction(1, 14400);
        due(1, x.chance(0, 14400));
        fraction(0, 1);
        // rows of 7199 twice: two ways to begin
        due(1, x.chance(2, 7199));
        fraction(1, 7200);
        due(1, x.chance(2, 7200));
        fraction(0, 1);
        says("BAD; SPENT.");
        brim(0);
        x.chance(0, 7);
        for (int bad : new int[] {-1, 5, 16, MOST, LEAST}) refused(BAD, () -> x.chance(bad, 1));
        for (int bad : new int[] {0, 14401, -1, MOST, LEAST}) refused(BAD, () -> x.chance(0, bad));
        brim(1);
        refused(SPENT, () -> x.chance(0, 1));
        refused(SPENT, () -> x.chance(4, 14400));
        refused(BAD, () -> x.chance(5, 1));
        refused(BAD, () -> x.chance(0, 0));
        refused(BAD, () -> x.chance(0, 14401));
    }

    private static void thief() {
        promise(32);
        says("Where a THIEF who needs n PARTS fares best: the POST with the greatest WORTH times CHANCE (told by upper(), lower()), "
            + "the least of alike ones;");
        due(0, x.thief(1));
        fraction(1, 1);
        due(0, x.thief(14400));
        fraction(1, 1);
        fence(1, 1);
        shuttle(0, 0, 0);
        x.worth(2, 0);
        due(0, x.thief(19));
        fraction(1, 20);
        x.worth(1, 9);
        due(1, x.thief(19));
        fraction(9, 20);
        due(1, x.thief(1));
        fraction(171, 20);
        x.worth(0, 9);
        due(0, x.thief(1));
        // never seen: a chance of 1, 9 at most
        x.worth(2, 8);
        due(0, x.thief(1));
        fraction(171, 20);
        due(2, x.thief(3));
        fraction(8, 1);
        x.worth(2, 9);
        due(2, x.thief(1));
        fraction(9, 1);
        due(2, x.thief(14400));
        fraction(9, 1);
        says("NONE: all are 0.");
        fence(1);
        shuttle(0, 0, 0);
        due(0, x.thief(19));
        due(NONE, x.thief(20));
        due(NONE, x.thief(14400));
        // none is told, so the fraction that was told last stays
        fraction(1, 20);
        x.worth(0, 0);
        x.worth(1, 0);
        due(NONE, x.thief(1));
        fence(1);
        x.walker(3, 0, 0);
        x.view(1, 1);
        due(NONE, x.thief(1));
        says("BAD; SPENT.");
        brim(0);
        due(0, x.thief(14399));
        for (int bad : new int[] {0, 14401, -1, MOST, LEAST}) refused(BAD, () -> x.thief(bad));
        brim(1);
        refused(SPENT, () -> x.thief(1));
        refused(SPENT, () -> x.thief(14400));
        refused(BAD, () -> x.thief(0));
        refused(BAD, () -> x.thief(14401));
    }

    private static void safe() {
        promise(33);
        says("The most PARTS with which a THIEF gets through anywhere (WORTH above 0) at all;");
        fence(1, 1);
        x.worth(2, 0);
        shuttle(0, 0, 5);
        // post 0: 19 parts of 25, post 1: 24
        due(24, x.safe());
        x.worth(1, 0);
        due(19, x.safe());
        x.worth(0, 9);
        due(19, x.safe());
        relay(22);
        x.worth(1, 0);
        due(1, x.safe());
        brimAlone(0);
        due(14399, x.safe());
        says("NONE: a POST is never SEEN; 0: none.");
        due(NONE, x.safe());
        x.worth(0, 0);
        due(0, x.safe());
        fence(1, 1);
        shuttle(0, 0, 0);
        due(NONE, x.safe());
        x.worth(2, 0);
        due(19, x.safe());
        x.walker(3, 0, 0);
        x.view(1, 1);
        due(0, x.safe());
        x.worth(2, 1);
        due(NONE, x.safe());
        says("SPENT.");
        brim(0);
        due(14399, x.safe());
        brim(1);
        refused(SPENT, () -> x.safe());
        for (int p = 0; p < 5; p++) x.worth(p, 0);
        refused(SPENT, () -> x.safe());
    }

    /** Four on a ring of three, 10 parts from post to post, who come to post 0 at 0, 5, 10 and 20 of 30 parts. */
    private static void four() {
        ring(1, 1, 1);
        int[] starts = {0, 5, 10, 20};
        for (int w = 0; w < 4; w++) {
            x.walker(1, 6, 0);
            plan(w, starts[w], 0, 1, 2);
        }
        x.worth(1, 0);
        x.worth(2, 0);
    }

    private static void peril() {
        promise(34);
        says("PERIL with k LOST; the set of WALKERS (the first such by bits) by asked();");
        four();
        x.worth(0, 9);
        due(81, x.peril(0));
        due(0, x.asked());
        // without 0: 20 to 5 of 30; without 3: 10 to 0; without 1 or 2: 5 to 20
        due(171, x.peril(1));
        due(8, x.asked());
        // without 0 and 3: 10 to 5
        due(9 * 24, x.peril(2));
        due(9, x.asked());
        // with one alone 29 all the same: the first set by bits
        due(9 * 29, x.peril(3));
        due(7, x.asked());
        // alike ones: all sets of two of 0, 2 and 3, who are 10 apart
        x.lose(1, true);
        due(81, x.peril(0));
        due(171, x.peril(1));
        due(1, x.asked());
        due(261, x.peril(2));
        due(5, x.asked());
        // a load of 0 with any set: a guard is there, and one more
        x.walker(3, 0, 0);
        x.walker(3, 0, 0);
        due(0, x.peril(0));
        due(0, x.asked());
        due(0, x.peril(1));
        due(1, x.asked());
        // the guards together are the worst of two: 9 parts are left then
        due(81, x.peril(2));
        due(48, x.asked());
        due(171, x.peril(3));
        due(49, x.asked());
    }

    private static void perilNone() {
        promise(34);
        says("NONE: with some set (that by asked(), the first by bits) a POST with a WORTH is never SEEN.");
        // nobody goes: the set of none
        for (int k = 0; k <= 3; k++) {
            due(NONE, x.peril(k));
            due(0, x.asked());
        }
        four();
        // fewer go than are lost: all of them
        x.lose(0, true);
        due(24, x.peril(1));
        due(8, x.asked());
        due(NONE, x.peril(3));
        due(14, x.asked());
        x.lose(2, true);
        due(29, x.peril(1));
        due(2, x.asked());
        for (int k = 2; k <= 3; k++) {
            due(NONE, x.peril(k));
            due(10, x.asked());
        }
        x.lose(0, false);
        x.lose(2, false);
        // a post that only 1 and 2 see, by their view of 1
        x.net(4);
        x.wall(0, 1, 1);
        x.wall(1, 2, 1);
        x.wall(2, 0, 1);
        x.wall(2, 3, 1);
        for (int p = 0; p < 3; p++) x.worth(p, 0);
        x.view(1, 1);
        x.view(2, 1);
        due(29, x.peril(1));
        due(2, x.asked());
        due(NONE, x.peril(2));
        due(6, x.asked());
        // 1 and 2 with one more: 0 is the first of these by bits
        due(NONE, x.peril(3));
        due(7, x.asked());
        x.worth(3, 0);
        due(0, x.peril(3));
        due(7, x.asked());
        due(0, x.peril(0));
        due(0, x.asked());
    }

    private static void perilSpent() {
        promise(34);
        says("BAD; SPENT: with any set.");
        four();
        x.peril(2);
        for (int bad : new int[] {-1, 4, MOST, LEAST}) refused(BAD, () -> x.peril(bad));
        fresh();
        brim(0);
        due(14399, x.peril(0));
        due(0, x.asked());
        brimAlone(1);
        refused(SPENT, () -> x.peril(0));
        refused(BAD, () -> x.peril(-1));
        refused(BAD, () -> x.peril(4));
        // without the one nothing is left, and that is not spent
        due(NONE, x.peril(1));
        due(1, x.asked());
        // 14400 and 3600 fit, 3601 fits with none of them: with two lost all is well, with one of them not
        brimAlone(0);
        x.walker(0, 0, 0);
        x.walker(0, 0, 0);
        plan(1, 0, 0, 1);
        rested(2, 0, new int[] {0, 1}, 1);
        refused(SPENT, () -> x.peril(0));
        refused(SPENT, () -> x.peril(1));
        due(NONE, x.peril(2));
        due(3, x.asked());
        due(NONE, x.peril(3));
        due(7, x.asked());
        // without a worth, too
        for (int p = 0; p < 5; p++) x.worth(p, 0);
        refused(SPENT, () -> x.peril(1));
        due(0, x.peril(2));
        due(3, x.asked());
    }

    /** Eight who come to a post each 10 parts, as often as anyone can, in a joint of 14300. */
    private static void full() {
        promise(27);
        says("IDLE of a POST; NONE: it is never SEEN.");
        x.net(3);
        x.wall(0, 1, 1);
        x.wall(1, 2, 1);
        x.wall(2, 0, 1);
        // once round over 2, 11, 13 and 10 posts: posts 0 and 1 by turns, and post 2 at the end where their number is odd
        int[] sizes = {2, 11, 13, 10, 2, 2, 2, 2};
        int[][] plans = new int[8][];
        for (int w = 0; w < 8; w++) {
            plans[w] = new int[sizes[w]];
            for (int i = 0; i < sizes[w]; i++) plans[w][i] = i % 2 == 0 && i == sizes[w] - 1 ? 2 : i % 2;
        }
        boolean[][] seen = new boolean[3][14300];
        for (int w = 0; w < 8; w++) {
            x.walker(1, 6, 0);
            plan(w, 10 * w, plans[w]);
            for (int time = 0; time < 14300; time += 10) {
                seen[plans[w][Math.floorMod(time / 10 - w, plans[w].length)]][time] = true;
            }
        }
        due(14300, x.joint());
        for (int p = 0; p < 3; p++) {
            int longest = 0;
            int from = 0;
            int row = 0;
            int many = 0;
            // twice round, so that a row that goes over the end is seen whole
            for (int time = 0; time < 28600; time++) {
                row = seen[p][time % 14300] ? 0 : row + 1;
                many += time < 14300 && seen[p][time] ? 1 : 0;
                if (row > longest) {
                    longest = row;
                    from = (time - row + 1) % 14300;
                }
            }
            due(longest, x.idle(p));
            due(from, x.idleFrom(p));
            due(1, x.share(p));
            due(many * x.lower(), 14300 * x.upper());
        }
    }
}
