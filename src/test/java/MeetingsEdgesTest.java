/** Promises 35 to 37, sentence by sentence: meetings at the very edge of a rest, a wall and a time; each refusal in its order. */
public final class MeetingsEdgesTest extends Checks {
    public static void main(String[] args) {
        meetAtPosts();
        meetOnWalls();
        meetLate();
        meetNone();
        meetRefusals();
        meetSpent();
        word();
        wordEarliest();
        wordNone();
        wordRefusals();
        wordSpent();
        spread();
        spreadRefusals();
        end("promises 35 to 37");
    }

    private static void met(int a, int b, int from, long top, long bottom) {
        due(1, x.meet(a, b, from));
        fraction(top, bottom);
        due(1, x.meet(b, a, from));
        fraction(top, bottom);
    }

    private static void meetAtPosts() {
        promise(35);
        says("MEETING of two WALKERS, told by upper(), lower(): 1;");
        fence(1);
        x.walker(3, 0, 0);
        x.walker(3, 0, 0);
        met(0, 1, 0, 0, 1);
        met(0, 1, 14399, 14399, 1);
        // it rests at post 0 from 0 to 10 of 130 parts: it is there as it comes and as it goes
        x.walker(0, 0, 0);
        rested(2, 0, new int[] {0, 1}, 10);
        met(0, 2, 0, 0, 1);
        met(0, 2, 1, 1, 1);
        met(0, 2, 10, 10, 1);
        met(0, 2, 11, 130, 1);
        met(0, 2, 129, 130, 1);
        met(0, 2, 14399, 14430, 1);
        // it has walked so before its start, too
        rested(2, 14399, new int[] {0, 1}, 10);
        met(0, 2, 0, 99, 1);
        met(0, 2, 110, 229, 1);
        // one comes as the other one goes: at 60 from post 1, where it rested
        x.walker(0, 0, 0);
        rested(2, 0, new int[] {0, 1}, 0, 60);
        rested(3, 0, new int[] {1, 0}, 60);
        met(2, 3, 31, 60, 1);
        met(2, 3, 60, 60, 1);
        // both come to post 1 at the same time and from two sides
        fence(1, 1);
        plan(2, 0, 0, 1);
        plan(3, 0, 2, 1);
        met(2, 3, 0, 60, 1);
        met(2, 3, 60, 60, 1);
        met(2, 3, 61, 180, 1);
    }

    private static void meetOnWalls() {
        promise(35);
        says("MEETING of two WALKERS, told by upper(), lower(): 1;");
        fence(1);
        x.walker(0, 0, 0);
        x.walker(0, 0, 0);
        plan(0, 0, 0, 1);
        plan(1, 0, 1, 0);
        met(0, 1, 0, 30, 1);
        met(0, 1, 30, 30, 1);
        met(0, 1, 31, 90, 1);
        met(0, 1, 14399, 14430, 1);
        // side by side they are together at any time
        plan(1, 0, 0, 1);
        met(0, 1, 0, 0, 1);
        met(0, 1, 7, 7, 1);
        met(0, 1, 14399, 14399, 1);
        // each two of six speeds from both ends: 60 by the sum of both
        for (int a = 1; a <= 6; a++) {
            fresh();
            fence(1);
            x.walker(1, a, 0);
            plan(0, 0, 0, 1);
            for (int b = a; b <= 6; b++) {
                int w = x.walker(1, b, 0);
                plan(w, 0, 1, 0);
                int sum = a + b;
                int common = common(60, sum);
                met(0, w, 0, 60 / common, sum / common);
            }
        }
        // overtaken: one of speed 5 is 12 parts ahead of one of speed 6, and 72 behind its own start both have walked 6 units
        fresh();
        fence(30);
        x.walker(1, 5, 0);
        x.walker(1, 6, 0);
        plan(0, 0, 0, 1);
        plan(1, 12, 0, 1);
        met(0, 1, 20, 72, 1);
        met(0, 1, 72, 72, 1);
        // 13 parts ahead of one of speed 2: 13 * 5 / 3 from the start of the first one
        x.walker(1, 2, 0);
        plan(2, 0, 0, 1);
        plan(0, 13, 0, 1);
        met(0, 2, 14, 65, 3);
        met(0, 2, 21, 65, 3);
    }

    private static int common(int a, int b) {
        return b == 0 ? a : common(b, a % b);
    }

    /** A post, and then so many walls of 10 parts between two others, with one rest at the first of these. */
    private static void flutter(int w, int start, int walls, int a, int rest) {
        int[] posts = new int[walls];
        for (int i = 1; i < walls; i++) posts[i] = i % 2 == 1 ? a : a + 1;
        rested(w, start, posts, 0, rest);
    }

    /** Two whose periods are 225 and 192, with walls as short as can be: within 14400 parts they may meet once at post 0. */
    private static void meetLate() {
        promise(35);
        says("MEETING of two WALKERS, told by upper(), lower(): 1;");
        x.net(5);
        x.wall(0, 1, 1);
        x.wall(1, 2, 1);
        x.wall(2, 0, 1);
        x.wall(0, 3, 1);
        x.wall(3, 4, 1);
        x.wall(4, 0, 1);
        x.walker(1, 6, 0);
        x.walker(1, 6, 0);
        flutter(0, 0, 22, 1, 5);
        flutter(1, 0, 19, 3, 2);
        due(225, x.told(0, 6));
        due(192, x.told(1, 6));
        due(14400, x.joint());
        met(0, 1, 0, 0, 1);
        met(0, 1, 1, 14400, 1);
        met(0, 1, 14399, 14400, 1);
        // the last round in which they can: 63 times 225 is 73 times 192 and 159 more
        flutter(1, 159, 19, 3, 2);
        met(0, 1, 0, 14175, 1);
        met(0, 1, 14175, 14175, 1);
        met(0, 1, 14176, 28575, 1);
        // 3 divides both periods, but not what one starts later: their times at post 0 are never alike
        flutter(1, 160, 19, 3, 2);
        due(NONE, x.meet(0, 1, 0));
        due(NONE, x.meet(1, 0, 14399));
    }

    private static void meetNone() {
        promise(35);
        says("NONE: they do not.");
        ring(1, 1, 1);
        x.walker(3, 0, 0);
        x.walker(3, 1, 0);
        x.walker(0, 0, 0);
        x.walker(0, 0, 0);
        due(NONE, x.meet(0, 1, 0));
        fraction(0, 1);
        // one behind the other round the ring with the same speed, 1 part apart
        plan(2, 0, 0, 1, 2);
        plan(3, 1, 0, 1, 2);
        due(NONE, x.meet(2, 3, 0));
        due(NONE, x.meet(3, 2, 14399));
        fraction(0, 1);
        // a rest of the one behind does not help, but one of the one ahead does
        rested(2, 0, new int[] {0, 1, 2}, 0, 1);
        rested(3, 1, new int[] {0, 1, 2}, 0, 1);
        met(2, 3, 0, 61, 1);
        rested(3, 2, new int[] {0, 1, 2}, 0, 1);
        due(NONE, x.meet(2, 3, 0));
        fraction(61, 1);
        // only at the end of their joint: 14400 is a whole number of both
        fresh();
        brim(0);
        x.walker(3, 4, 0);
        met(0, 1, 7200, 7200, 1);
        met(0, 1, 7201, 21600, 1);
        // once in 14400 parts, in which the other one goes 1440 ways of 10 parts: just before the end, or not at all
        fresh();
        fence(1, 30, 30, 30, 30);
        x.walker(1, 6, 0);
        x.walker(0, 0, 0);
        plan(0, 0, 0, 1);
        plan(1, 50, 1, 2, 3, 4, 5, 4, 3, 2);
        met(0, 1, 50, 50, 1);
        met(0, 1, 51, 14450, 1);
        plan(1, 51, 1, 2, 3, 4, 5, 4, 3, 2);
        due(NONE, x.meet(0, 1, 0));
        due(NONE, x.meet(1, 0, 14399));
    }

    /** Two that go, one that has no plan, one that was sent home. */
    private static void company() {
        fence(1, 1);
        x.walker(0, 0, 0);
        x.walker(3, 1, 0);
        x.walker(0, 0, 0);
        x.walker(3, 0, 0);
        plan(0, 0, 0, 1);
        x.home(3);
    }

    private static void meetRefusals() {
        promise(35);
        says("BAD: also the same one; NOTHING: either; STATE: one does not GO;");
        company();
        due(1, x.meet(0, 1, 14399));
        for (int bad : new int[] {-1, 14400, MOST, LEAST}) {
            refused(BAD, () -> x.meet(0, 1, bad));
            refused(BAD, () -> x.meet(3, 1, bad));
            refused(BAD, () -> x.meet(2, 1, bad));
        }
        for (int bad : new int[] {-1, 4, 8, MOST, LEAST}) {
            refused(BAD, () -> x.meet(bad, 0, 0));
            refused(BAD, () -> x.meet(0, bad, 0));
            refused(BAD, () -> x.meet(3, bad, 0));
        }
        for (int w = 0; w < 4; w++) {
            int same = w;
            refused(BAD, () -> x.meet(same, same, 0));
        }
        found(NOTHING, () -> x.meet(3, 0, 0));
        found(NOTHING, () -> x.meet(0, 3, 14399));
        refused(STATE, () -> x.meet(0, 2, 0));
        refused(STATE, () -> x.meet(2, 0, 0));
        x.lose(0, true);
        refused(STATE, () -> x.meet(0, 1, 0));
        refused(STATE, () -> x.meet(0, 2, 0));
        x.lose(0, false);
        x.breaks(0, 1, true);
        refused(STATE, () -> x.meet(1, 0, 0));
    }

    private static void meetSpent() {
        promise(35);
        says("SPENT: JOINT of the two is above 14400. (STATE, SPENT behind NOTHING.)");
        brim(1);
        x.walker(3, 0, 0);
        x.walker(3, 0, 0);
        x.walker(0, 0, 0);
        x.walker(0, 0, 0);
        plan(4, 0, 0, 1);
        x.home(3);
        refused(SPENT, () -> x.meet(0, 1, 0));
        refused(SPENT, () -> x.meet(1, 0, 14399));
        refused(SPENT, () -> x.meet(4, 0, 0));
        refused(BAD, () -> x.meet(0, 1, 14400));
        found(NOTHING, () -> x.meet(0, 3, 0));
        found(NOTHING, () -> x.meet(3, 0, 0));
        // that another one is beyond does not matter to these two
        met(1, 2, 5, 5, 1);
        met(1, 4, 1, 3600, 1);
        // one that does not go is missing all the same, once it is sent home
        x.lose(0, true);
        refused(STATE, () -> x.meet(0, 1, 0));
        found(NOTHING, () -> x.meet(0, 3, 0));
        x.home(0);
        found(NOTHING, () -> x.meet(0, 1, 0));
        fresh();
        brim(0);
        x.walker(3, 0, 0);
        met(0, 1, 0, 0, 1);
    }

    private static void word() {
        promise(36);
        says("A WORD that a WALKER has from a time (0 .. 14399) on: when another one has it, told by upper(), lower(): 1;");
        fence(1, 1);
        x.walker(3, 0, 0);
        x.walker(0, 0, 0);
        x.walker(3, 1, 0);
        plan(1, 30, 0, 1);
        // itself at once
        due(1, x.word(0, 0, 0));
        fraction(0, 1);
        due(1, x.word(1, 14399, 1));
        fraction(14399, 1);
        // at 30 to the one that walks, at 90 to post 1; at 31 it is too late for this time
        due(1, x.word(0, 0, 1));
        fraction(30, 1);
        due(1, x.word(0, 30, 2));
        fraction(90, 1);
        due(1, x.word(0, 31, 1));
        fraction(150, 1);
        due(1, x.word(0, 31, 2));
        fraction(210, 1);
        due(1, x.word(0, 14399, 2));
        fraction(14490, 1);
        // who meets another one before it has the word itself brings none: 2 to 0 only by way of 1, who is at 0 at 150
        due(1, x.word(2, 91, 0));
        fraction(270, 1);
        // a fraction is passed on as it is: at 60 / 11 on the wall, and from there with the faster one to post 1 at 10
        fresh();
        fence(1);
        x.walker(1, 5, 0);
        x.walker(1, 6, 0);
        x.walker(3, 1, 0);
        plan(0, 0, 1, 0);
        plan(1, 0, 0, 1);
        due(1, x.word(0, 1, 1));
        fraction(60, 11);
        due(1, x.word(0, 1, 2));
        fraction(10, 1);
        due(1, x.word(0, 0, 2));
        fraction(0, 1);
    }

    private static void wordEarliest() {
        promise(36);
        says("A WORD that a WALKER has from a time (0 .. 14399) on: when another one has it, told by upper(), lower(): 1;");
        fence(1, 1);
        x.walker(1, 6, 0);
        x.walker(1, 6, 0);
        x.walker(3, 1, 0);
        x.walker(3, 2, 0);
        // 0 is at post 1 at 5 and at post 2 at 15, 1 is at post 1 at 10 and at post 2 at 20: the earlier one brings it, whoever it is
        plan(0, 5, 1, 2);
        plan(1, 10, 1, 2);
        due(1, x.word(2, 0, 3));
        fraction(15, 1);
        plan(0, 10, 1, 2);
        plan(1, 5, 1, 2);
        due(1, x.word(2, 0, 3));
        fraction(15, 1);
        // who has it from one is not without it because another one does not meet him, or meets him later
        plan(0, 5, 1, 0);
        plan(1, 10, 1, 2);
        due(NONE, x.meet(0, 1, 0));
        due(1, x.word(2, 0, 1));
        fraction(10, 1);
        due(1, x.word(2, 6, 0));
        fraction(25, 1);
        rested(1, 10, new int[] {1, 2}, 3);
        // 0 is there at 5, 25, .. 105, 1 from 10 to 13, .. 102 to 105
        due(1, x.meet(0, 1, 0));
        fraction(105, 1);
        due(1, x.word(2, 0, 1));
        fraction(10, 1);
        // by two others, of greater numbers, who have it before: at 0 and 10, then at post 2 at 20
        fresh();
        fence(1, 1);
        x.walker(3, 0, 0);
        x.walker(3, 2, 0);
        x.walker(1, 6, 0);
        x.walker(1, 6, 0);
        plan(2, 0, 0, 1);
        plan(3, 10, 1, 2);
        due(1, x.word(0, 0, 1));
        fraction(20, 1);
        due(1, x.word(0, 1, 1));
        fraction(40, 1);
        due(1, x.word(1, 0, 0));
        fraction(20, 1);
    }

    private static void wordNone() {
        promise(36);
        says("NONE: it does not come there.");
        fence(1, 1);
        x.walker(3, 0, 0);
        x.walker(3, 1, 0);
        x.walker(3, 2, 0);
        x.walker(0, 0, 0);
        plan(3, 0, 0, 1);
        due(1, x.word(0, 0, 1));
        fraction(60, 1);
        due(NONE, x.word(0, 0, 2));
        fraction(60, 1);
        due(NONE, x.word(2, 14399, 3));
        // who is lost passes nothing on
        x.lose(3, true);
        due(NONE, x.word(0, 0, 1));
        fraction(60, 1);
    }

    private static void wordRefusals() {
        promise(36);
        says("BAD; NOTHING: either; STATE: either does not GO;");
        company();
        due(1, x.word(0, 14399, 1));
        for (int bad : new int[] {-1, 14400, MOST, LEAST}) {
            refused(BAD, () -> x.word(0, bad, 1));
            refused(BAD, () -> x.word(3, bad, 1));
            refused(BAD, () -> x.word(2, bad, 2));
        }
        for (int bad : new int[] {-1, 4, 8, MOST, LEAST}) {
            refused(BAD, () -> x.word(bad, 0, 0));
            refused(BAD, () -> x.word(0, 0, bad));
            refused(BAD, () -> x.word(bad, 0, 3));
            refused(BAD, () -> x.word(2, 0, bad));
        }
        found(NOTHING, () -> x.word(3, 0, 0));
        found(NOTHING, () -> x.word(0, 0, 3));
        found(NOTHING, () -> x.word(3, 0, 3));
        found(NOTHING, () -> x.word(2, 0, 3));
        found(NOTHING, () -> x.word(3, 0, 2));
        refused(STATE, () -> x.word(2, 0, 0));
        refused(STATE, () -> x.word(0, 0, 2));
        refused(STATE, () -> x.word(2, 0, 2));
        x.lose(1, true);
        refused(STATE, () -> x.word(0, 0, 1));
        refused(STATE, () -> x.word(1, 0, 1));
    }

    private static void wordSpent() {
        promise(36);
        says("SPENT: of any two that GO. (STATE, SPENT behind NOTHING.)");
        brim(1);
        x.walker(3, 0, 0);
        x.walker(3, 0, 0);
        x.walker(0, 0, 0);
        x.walker(0, 0, 0);
        x.home(3);
        refused(SPENT, () -> x.word(1, 0, 2));
        refused(SPENT, () -> x.word(1, 0, 1));
        refused(SPENT, () -> x.word(0, 14399, 0));
        refused(BAD, () -> x.word(1, 14400, 2));
        found(NOTHING, () -> x.word(1, 0, 3));
        found(NOTHING, () -> x.word(3, 0, 1));
        refused(STATE, () -> x.word(1, 0, 4));
        refused(STATE, () -> x.word(4, 0, 1));
        // who is lost is none of the two; one alone is no two
        x.lose(0, true);
        due(1, x.word(1, 8, 2));
        fraction(8, 1);
        x.lose(0, false);
        x.lose(1, true);
        x.lose(2, true);
        due(1, x.word(0, 9, 0));
        fraction(9, 1);
        fresh();
        brim(0);
        x.walker(3, 0, 0);
        due(1, x.word(1, 1, 0));
        fraction(14400, 1);
        // each two of 400, 480 and 140 are fine, though all of them together are not
        fresh();
        fence(20, 24, 7);
        for (int w = 0; w < 3; w++) x.walker(1, 6, 0);
        plan(0, 0, 0, 1);
        plan(1, 200, 1, 2);
        plan(2, 0, 2, 3);
        due(SPENT, x.joint());
        due(1, x.word(0, 0, 1));
        fraction(200, 1);
        rested(2, 0, new int[] {2, 3}, 1);
        refused(SPENT, () -> x.word(0, 0, 1));
    }

    private static void spread() {
        promise(37);
        says("How many WALKERS that GO have the WORD at last (itself, too).");
        fence(1, 1);
        x.walker(3, 0, 0);
        due(1, x.spread(0, 0));
        due(1, x.spread(0, 14399));
        for (int w = 1; w < 8; w++) {
            x.walker(3, 0, 0);
            due(w + 1, x.spread(0, 0));
        }
        x.lose(3, true);
        x.home(4);
        due(6, x.spread(7, 14399));
        fresh();
        fence(1, 1);
        x.walker(3, 0, 0);
        x.walker(3, 1, 0);
        x.walker(3, 2, 0);
        x.walker(0, 0, 0);
        due(1, x.spread(0, 0));
        plan(3, 0, 0, 1);
        due(3, x.spread(0, 0));
        due(3, x.spread(1, 0));
        due(1, x.spread(2, 0));
        x.walker(0, 0, 0);
        plan(4, 0, 1, 2);
        due(5, x.spread(0, 14399));
        due(5, x.spread(2, 0));
    }

    private static void spreadRefusals() {
        promise(37);
        says("BAD; NOTHING; STATE; SPENT. (STATE, SPENT behind NOTHING.)");
        company();
        due(2, x.spread(0, 14399));
        for (int bad : new int[] {-1, 14400, MOST, LEAST}) {
            refused(BAD, () -> x.spread(0, bad));
            refused(BAD, () -> x.spread(3, bad));
            refused(BAD, () -> x.spread(2, bad));
        }
        for (int bad : new int[] {-1, 4, 8, MOST, LEAST}) refused(BAD, () -> x.spread(bad, 0));
        found(NOTHING, () -> x.spread(3, 0));
        refused(STATE, () -> x.spread(2, 0));
        x.lose(0, true);
        refused(STATE, () -> x.spread(0, 0));
        x.home(0);
        found(NOTHING, () -> x.spread(0, 0));
        fresh();
        brim(1);
        x.walker(3, 0, 0);
        x.walker(0, 0, 0);
        x.walker(0, 0, 0);
        x.home(3);
        refused(SPENT, () -> x.spread(0, 0));
        refused(SPENT, () -> x.spread(1, 14399));
        refused(BAD, () -> x.spread(1, 14400));
        refused(STATE, () -> x.spread(2, 0));
        found(NOTHING, () -> x.spread(3, 0));
        x.lose(0, true);
        due(1, x.spread(1, 0));
        x.lose(0, false);
        x.lose(1, true);
        due(1, x.spread(0, 0));
        fresh();
        brim(0);
        x.walker(3, 0, 0);
        due(2, x.spread(1, 0));
    }
}
