/** Promises 1 to 13, sentence by sentence: the last that is allowed, the first that is not, the empty, the full. */
public final class RowsGroundEdgesTest extends Checks {
    public static void main(String[] args) {
        newObject();
        row();
        lay();
        tear();
        copy();
        mean();
        fence();
        fenceSizes();
        net();
        wall();
        wallRefusals();
        breaks();
        far();
        worth();
        base();
        end("promises 1 to 13");
    }

    private static void bytes(int r, int... due) {
        for (int i = 0; i < due.length; i++) due(1000 + due[i], x.lay(r, i, due[i]));
    }

    private static void newObject() {
        promise(1);
        says("A NET of one POST;");
        due(2, x.count(0));
        due(1, x.count(1));
        due(0, x.count(2));
        due(0, x.count(3));
        due(0, x.far(0, 0));
        due(1, x.worth(0, 1));
        due(0, x.base(0, false));
        refused(BAD, () -> x.worth(1, 1));
        refused(BAD, () -> x.wall(0, 1, 1));
        says("no ROWS, WALKERS.");
        due(0, x.count(6));
        due(0, x.count(4));
        due(0, x.count(5));
        due(1, x.joint());
        for (int i = 0; i < 8; i++) {
            int r = i;
            found(NOTHING, () -> x.tear(r));
            refused(BAD, () -> x.home(r));
        }
    }

    private static void row() {
        promise(2);
        says("A ROW is there with n bytes 0: n.");
        due(0, x.row(0, 0));
        due(1, x.count(6));
        found(BEYOND, () -> x.lay(0, 0, 1));
        due(40, x.row(7, 40));
        bytes(7, new int[40]);
        found(BEYOND, () -> x.lay(7, 40, 1));
        for (int r = 1; r < 7; r++) due(1, x.row(r, 1));
        due(8, x.count(6));
        // one that is there is made anew, shorter or longer, and nothing shines through
        put(0, 5, 6, 7);
        due(1, x.row(0, 1));
        bytes(0, 0);
        found(BEYOND, () -> x.lay(0, 1, 1));
        put(0, 5, 6, 7);
        due(3, x.row(0, 3));
        bytes(0, 0, 0, 0);
        put(0, 5, 6, 7);
        x.tear(0);
        due(4, x.row(0, 4));
        bytes(0, 0, 0, 0, 0);
        due(8, x.count(6));
        says("BAD: also n above 40;");
        put(0, 1, 2);
        for (int bad : new int[] {-1, 8, NONE, MOST, LEAST}) refused(BAD, () -> x.row(bad, 1));
        refused(BAD, () -> x.row(0, 41));
        refused(BAD, () -> x.row(7, 41));
        refused(BAD, () -> x.row(0, MOST));
        says("SIZE.");
        put(0, 1, 2);
        found(SIZE, () -> x.row(0, -1));
        found(SIZE, () -> x.row(7, -1));
        found(SIZE, () -> x.row(0, LEAST));
        refused(BAD, () -> x.row(-1, -1));
        refused(BAD, () -> x.row(8, -1));
    }

    private static void lay() {
        promise(3);
        says("Byte i of a ROW is v, cut to a byte: what it was, and 1000 more.");
        x.row(0, 40);
        int[] laid = {0, 127, 128, 255, 256, -1, -128, -129, -256, MOST, LEAST, LEAST + 128, 1000};
        int[] kept = {0, 127, -128, -1, 0, -1, -128, 127, 0, -1, 0, -128, -24};
        int was = 0;
        for (int k = 0; k < laid.length; k++) {
            due(1000 + was, x.lay(0, 39, laid[k]));
            was = kept[k];
        }
        due(976, x.lay(0, 39, 3));
        due(1000, x.lay(0, 0, 9));
        due(1009, x.lay(0, 0, 8));
        due(1000, x.lay(0, 1, 0));
        due(1000, x.lay(0, 38, 0));
        says("BAD; NOTHING; BEYOND.");
        put(0, 4, 5);
        x.row(1, 0);
        x.row(2, 40);
        for (int bad : new int[] {-1, 8, MOST, LEAST}) refused(BAD, () -> x.lay(bad, 0, 1));
        found(NOTHING, () -> x.lay(3, 0, 1));
        found(NOTHING, () -> x.lay(7, 0, 1));
        found(BEYOND, () -> x.lay(0, 2, 1));
        found(BEYOND, () -> x.lay(0, -1, 1));
        found(BEYOND, () -> x.lay(0, MOST, 1));
        found(BEYOND, () -> x.lay(0, LEAST, 1));
        found(BEYOND, () -> x.lay(1, 0, 1));
        found(BEYOND, () -> x.lay(2, 40, 1));
        refused(BAD, () -> x.lay(8, -1, 1));
        found(NOTHING, () -> x.lay(3, -1, 1));
        found(NOTHING, () -> x.lay(3, 40, 1));
    }

    private static void tear() {
        promise(4);
        says("A ROW is missing: 1.");
        x.row(0, 0);
        x.row(7, 40);
        due(1, x.tear(0));
        due(1, x.count(6));
        due(1, x.tear(7));
        due(0, x.count(6));
        found(NOTHING, () -> x.mean(7));
        due(3, x.row(7, 3));
        due(1, x.tear(7));
        says("BAD; NOTHING.");
        x.row(0, 3);
        for (int bad : new int[] {-1, 8, MOST, LEAST}) refused(BAD, () -> x.tear(bad));
        found(NOTHING, () -> x.tear(1));
        found(NOTHING, () -> x.tear(7));
        x.tear(0);
        found(NOTHING, () -> x.tear(0));
    }

    private static void copy() {
        promise(5);
        says("n bytes of a ROW, from one on, come to those of another one (perhaps itself) from one on, as if taken ahead: 1.");
        put(0, 1, 2, 3, 4);
        put(1, 7, 8, 9);
        due(1, x.copy(0, 0, 1, 0, 3));
        bytes(1, 1, 2, 3);
        bytes(0, 1, 2, 3, 4);
        due(1, x.copy(0, 3, 1, 2, 1));
        bytes(1, 1, 2, 4);
        due(1, x.copy(0, 0, 0, 1, 3));
        bytes(0, 1, 1, 2, 3);
        due(1, x.copy(0, 1, 0, 0, 3));
        bytes(0, 1, 2, 3, 3);
        due(1, x.copy(0, 0, 0, 0, 4));
        bytes(0, 1, 2, 3, 3);
        fresh();
        fill(0, 40, 5);
        x.row(7, 40);
        due(1, x.copy(0, 0, 7, 0, 40));
        due(1005, x.lay(7, 0, 5));
        due(1005, x.lay(7, 39, 5));
        says("BAD; NOTHING: either;");
        put(0, 1, 2);
        for (int bad : new int[] {-1, 8, MOST, LEAST}) {
            refused(BAD, () -> x.copy(bad, 0, 0, 0, 1));
            refused(BAD, () -> x.copy(0, 0, bad, 0, 1));
            refused(BAD, () -> x.copy(bad, 0, 3, 0, 1));
            refused(BAD, () -> x.copy(3, 0, bad, 0, -1));
        }
        found(NOTHING, () -> x.copy(0, 0, 3, 0, 1));
        found(NOTHING, () -> x.copy(3, 0, 0, 0, 1));
        found(NOTHING, () -> x.copy(3, 0, 4, 0, 0));
        found(NOTHING, () -> x.copy(0, 9, 3, 0, 1));
        found(NOTHING, () -> x.copy(3, 0, 0, 0, -1));
        says("BEYOND: not so many there (a place, n below 0, too).");
        put(0, 1, 2, 3);
        put(1, 4, 5);
        x.row(2, 0);
        due(1, x.copy(0, 1, 1, 0, 2));
        due(1, x.copy(0, 3, 1, 2, 0));
        due(1, x.copy(2, 0, 2, 0, 0));
        found(BEYOND, () -> x.copy(0, 2, 1, 0, 2));
        found(BEYOND, () -> x.copy(0, 0, 1, 1, 2));
        found(BEYOND, () -> x.copy(0, 0, 1, 0, 3));
        found(BEYOND, () -> x.copy(1, 0, 0, 0, 3));
        found(BEYOND, () -> x.copy(0, 4, 1, 0, 0));
        found(BEYOND, () -> x.copy(0, 0, 1, 3, 0));
        found(BEYOND, () -> x.copy(0, -1, 1, 0, 1));
        found(BEYOND, () -> x.copy(0, 0, 1, -1, 1));
        found(BEYOND, () -> x.copy(0, -1, 1, 0, 0));
        found(BEYOND, () -> x.copy(0, 0, 1, 0, -1));
        found(BEYOND, () -> x.copy(0, 1, 1, 1, -1));
        found(BEYOND, () -> x.copy(2, 0, 0, 0, 1));
        found(BEYOND, () -> x.copy(0, 0, 2, 0, 1));
        found(BEYOND, () -> x.copy(0, 1, 1, 0, MOST));
        found(BEYOND, () -> x.copy(0, MOST, 1, 0, 1));
        found(BEYOND, () -> x.copy(0, 0, 1, MOST, 1));
        found(BEYOND, () -> x.copy(0, MOST, 1, MOST, MOST));
        found(BEYOND, () -> x.copy(0, LEAST, 1, 0, LEAST));
        found(BEYOND, () -> x.copy(0, 0, 1, 0, LEAST));
    }

    private static void mean() {
        promise(6);
        says("The mean of a ROW's bytes, cut.");
        put(0, 7);
        due(7, x.mean(0));
        put(0, 1, 2);
        due(1, x.mean(0));
        put(0, 2, 2, 1);
        due(1, x.mean(0));
        put(0, -1, -2);
        due(-1, x.mean(0));
        put(0, 127, -128);
        due(0, x.mean(0));
        fill(7, 40, 127);
        due(127, x.mean(7));
        fill(7, 40, -128);
        due(-128, x.mean(7));
        x.row(7, 40);
        due(0, x.mean(7));
        x.lay(7, 39, 39);
        due(0, x.mean(7));
        x.lay(7, 39, 40);
        due(1, x.mean(7));
        says("BAD; NOTHING; NOUGHT.");
        x.row(0, 0);
        for (int bad : new int[] {-1, 8, MOST, LEAST}) refused(BAD, () -> x.mean(bad));
        found(NOTHING, () -> x.mean(1));
        found(NOTHING, () -> x.mean(7));
        found(NOUGHT, () -> x.mean(0));
        x.row(0, 1);
        due(0, x.mean(0));
    }

    private static void fence() {
        promise(7);
        says("THE GROUND is a FENCE (ring: a RING) with a ROW's bytes as lengths");
        put(0, 30);
        due(2, x.fence(0, false));
        due(0, x.count(0));
        due(1, x.count(2));
        due(30, x.far(0, 1));
        put(0, 1, 30, 2);
        due(4, x.fence(0, false));
        due(0, x.count(0));
        due(3, x.count(2));
        due(1, x.far(0, 1));
        due(30, x.far(1, 2));
        due(2, x.far(2, 3));
        due(33, x.far(3, 0));
        due(3, x.fence(0, true));
        due(1, x.count(0));
        due(3, x.count(2));
        due(1, x.far(0, 1));
        due(3, x.far(1, 2));
        due(2, x.far(2, 0));
        // what the row becomes later does not matter to the ground
        x.lay(0, 0, 9);
        x.tear(0);
        due(1, x.far(0, 1));
        says("(WORTHS 1, no BASE; WALKERS, PLANS stay)");
        fence(3, 4);
        for (int p = 0; p < 3; p++) {
            x.worth(p, p * 4);
            x.base(p, true);
        }
        x.breaks(0, 1, true);
        x.walker(1, 2, 0);
        x.walker(3, 2, 0);
        x.walker(0, 0, 0);
        plan(0, 17, 0, 1, 2, 1);
        x.view(0, 40);
        x.lose(0, true);
        x.home(2);
        fence(1);
        due(0, x.count(3));
        for (int p = 0; p < 2; p++) {
            due(1, x.worth(p, 1));
            due(0, x.base(p, false));
        }
        due(3, x.count(4));
        due(1, x.told(0, 0));
        due(40, x.told(0, 2));
        due(1, x.told(0, 3));
        due(4, x.told(0, 4));
        due(17, x.mark(0, 0));
        due(2, x.planned(0, 2, false));
        due(2, x.fit(0));
        due(2, x.mark(1, 3));
        due(0, x.told(1, 5));
        due(-3, x.home(2));
        // posts that come back have a worth of 1 and are no base
        fence(3, 4);
        due(1, x.worth(2, 1));
        due(0, x.base(2, false));
        due(0, x.fit(0));
        due(1, x.told(1, 5));
        says(": how many POSTS.");
        for (int n = 1; n <= 15; n++) {
            fill(0, n, 30);
            due(n + 1, x.fence(0, false));
            due(n + 1, x.count(1));
            due(n, x.count(2));
            if (n < 3) continue;
            due(n, x.fence(0, true));
            due(n, x.count(1));
        }
        fill(0, 16, 1);
        due(16, x.fence(0, true));
        due(16, x.count(1));
        due(16, x.count(2));
        due(1, x.far(15, 0));
    }

    private static void fenceSizes() {
        promise(7);
        says("BAD; NOTHING;");
        ring(4, 5, 6);
        x.worth(1, 7);
        x.base(1, true);
        for (int bad : new int[] {-1, 8, MOST, LEAST}) {
            refused(BAD, () -> x.fence(bad, false));
            refused(BAD, () -> x.fence(bad, true));
        }
        found(NOTHING, () -> x.fence(0, false));
        found(NOTHING, () -> x.fence(0, true));
        says("SIZE: of a FENCE none or more than 15, of a RING fewer than 3 or more than 16 bytes, or one that is not 1 .. 30.");
        ring(4, 5, 6);
        x.worth(1, 7);
        x.row(0, 0);
        found(SIZE, () -> x.fence(0, false));
        found(SIZE, () -> x.fence(0, true));
        fill(1, 16, 1);
        found(SIZE, () -> x.fence(1, false));
        fill(2, 17, 1);
        found(SIZE, () -> x.fence(2, true));
        found(SIZE, () -> x.fence(2, false));
        fill(3, 40, 1);
        found(SIZE, () -> x.fence(3, true));
        put(4, 1, 1);
        found(SIZE, () -> x.fence(4, true));
        put(5, 1);
        found(SIZE, () -> x.fence(5, true));
        due(3, x.count(1));
        due(2, x.fence(5, false));
        due(3, x.fence(4, false));
        fresh();
        for (int bad : new int[] {0, 31, -1, 127, -128}) {
            for (int place = 0; place < 3; place++) {
                put(place, 1, 30, 1);
                x.lay(place, place, bad);
                int r = place;
                found(SIZE, () -> x.fence(r, false));
                found(SIZE, () -> x.fence(r, true));
            }
        }
        put(0, 1, 30, 1);
        due(4, x.fence(0, false));
        due(3, x.fence(0, true));
    }

    private static void net() {
        promise(8);
        says("THE GROUND is a NET of P POSTS without WALLS (WORTHS 1, no BASE): P.");
        for (int p = 16; p >= 1; p -= 15) {
            ring(1, 1, 1);
            x.worth(0, 0);
            x.base(0, true);
            x.breaks(0, 1, true);
            due(p, x.net(p));
            due(2, x.count(0));
            due(p, x.count(1));
            due(0, x.count(2));
            due(0, x.count(3));
            due(1, x.worth(0, 1));
            due(0, x.base(0, false));
            due(1, x.worth(p - 1, 1));
            due(p == 1 ? 0 : NONE, x.far(0, p - 1));
        }
        // a wall of a net before is gone
        x.net(3);
        x.wall(0, 2, 5);
        x.worth(2, 8);
        due(3, x.net(3));
        due(NONE, x.far(0, 2));
        due(1, x.worth(2, 8));
        due(1, x.wall(0, 2, 5));
        says("BAD.");
        x.net(3);
        x.wall(0, 2, 5);
        x.worth(2, 8);
        for (int bad : new int[] {0, 17, -1, MOST, LEAST}) refused(BAD, () -> x.net(bad));
    }

    /** A net of sixteen posts with forty walls, each two of posts 0 to 8 and four more. */
    private static void fullNet() {
        x.net(16);
        for (int a = 0; a < 9; a++) {
            for (int b = a + 1; b < 9; b++) x.wall(a, b, 1 + (a + b) % 30);
        }
        for (int b = 12; b < 16; b++) x.wall(0, b, 30);
    }

    private static void wall() {
        promise(9);
        says("A WALL more of a NET: how many.");
        x.net(2);
        due(1, x.wall(1, 0, 1));
        due(1, x.far(0, 1));
        x.net(16);
        due(1, x.wall(0, 15, 30));
        due(30, x.far(15, 0));
        due(2, x.wall(15, 14, 1));
        due(31, x.far(14, 0));
        fullNet();
        due(40, x.count(2));
        due(30, x.far(0, 15));
        says("BAD: also of one POST alone, one that there is;");
        x.net(4);
        x.wall(0, 1, 5);
        x.wall(3, 2, 6);
        for (int bad : new int[] {-1, 4, 16, MOST, LEAST}) {
            refused(BAD, () -> x.wall(bad, 0, 1));
            refused(BAD, () -> x.wall(0, bad, 1));
        }
        for (int bad : new int[] {0, 31, -1, MOST, LEAST}) refused(BAD, () -> x.wall(0, 2, bad));
        refused(BAD, () -> x.wall(0, 0, 1));
        refused(BAD, () -> x.wall(3, 3, 1));
        refused(BAD, () -> x.wall(0, 1, 5));
        refused(BAD, () -> x.wall(1, 0, 7));
        refused(BAD, () -> x.wall(2, 3, 6));
        x.breaks(0, 1, true);
        refused(BAD, () -> x.wall(0, 1, 5));
        refused(BAD, () -> x.wall(1, 0, 5));
        due(3, x.wall(0, 2, 30));
        due(4, x.wall(1, 3, 1));
    }

    private static void wallRefusals() {
        promise(9);
        says("FULL;");
        fullNet();
        refused(FULL, () -> x.wall(9, 10, 1));
        refused(FULL, () -> x.wall(15, 14, 30));
        refused(BAD, () -> x.wall(9, 9, 1));
        refused(BAD, () -> x.wall(0, 1, 1));
        refused(BAD, () -> x.wall(9, 10, 31));
        refused(BAD, () -> x.wall(9, 10, 0));
        refused(BAD, () -> x.wall(9, 16, 1));
        // a broken wall takes its place as well
        x.breaks(0, 1, true);
        refused(FULL, () -> x.wall(9, 10, 1));
        x.net(16);
        due(1, x.wall(9, 10, 1));
        says("UNLIKE: no NET.");
        fence(1, 1, 1);
        found(UNLIKE, () -> x.wall(0, 2, 1));
        found(UNLIKE, () -> x.wall(3, 0, 30));
        refused(BAD, () -> x.wall(0, 1, 1));
        refused(BAD, () -> x.wall(0, 2, 31));
        refused(BAD, () -> x.wall(0, 4, 1));
        refused(BAD, () -> x.wall(2, 2, 1));
        ring(1, 1, 1, 1);
        found(UNLIKE, () -> x.wall(0, 2, 1));
        refused(BAD, () -> x.wall(3, 0, 1));
        refused(BAD, () -> x.wall(0, 2, 0));
        x.net(4);
        due(1, x.wall(0, 2, 1));
    }

    private static void breaks() {
        promise(10);
        says("A WALL is BROKEN, or not any more: 1 if it was.");
        ring(1, 2, 9);
        due(0, x.breaks(0, 1, false));
        due(0, x.count(3));
        due(0, x.breaks(0, 1, true));
        due(1, x.count(3));
        due(1, x.breaks(1, 0, true));
        due(1, x.count(3));
        due(11, x.far(0, 1));
        due(0, x.breaks(0, 2, true));
        due(2, x.count(3));
        due(NONE, x.far(0, 1));
        due(1, x.breaks(2, 0, false));
        due(1, x.breaks(0, 1, false));
        due(0, x.breaks(1, 0, false));
        due(0, x.count(3));
        due(3, x.count(2));
        due(1, x.far(0, 1));
        says("BAD; NOTHING: there is no such WALL.");
        x.net(4);
        x.wall(0, 1, 5);
        x.wall(1, 2, 6);
        x.breaks(1, 2, true);
        for (int bad : new int[] {-1, 4, 16, MOST, LEAST}) {
            refused(BAD, () -> x.breaks(bad, 0, true));
            refused(BAD, () -> x.breaks(0, bad, false));
            refused(BAD, () -> x.breaks(bad, bad, true));
        }
        for (boolean is : new boolean[] {true, false}) {
            found(NOTHING, () -> x.breaks(0, 2, is));
            found(NOTHING, () -> x.breaks(3, 0, is));
            found(NOTHING, () -> x.breaks(1, 1, is));
        }
        fence(1, 1);
        found(NOTHING, () -> x.breaks(0, 2, true));
        x.net(1);
        found(NOTHING, () -> x.breaks(0, 0, true));
    }

    private static void far() {
        promise(11);
        says("FAR; NONE: none leads there.");
        int[] thirty = new int[15];
        java.util.Arrays.fill(thirty, 30);
        fence(thirty);
        due(450, x.far(0, 15));
        due(450, x.far(15, 0));
        due(0, x.far(15, 15));
        x.breaks(7, 8, true);
        due(NONE, x.far(0, 15));
        due(NONE, x.far(8, 7));
        due(210, x.far(0, 7));
        due(210, x.far(8, 15));
        due(0, x.far(8, 8));
        x.breaks(7, 8, false);
        due(450, x.far(0, 15));
        x.net(2);
        due(NONE, x.far(0, 1));
        due(0, x.far(1, 1));
        x.wall(0, 1, 1);
        due(1, x.far(0, 1));
        says("BAD.");
        x.net(2);
        for (int bad : new int[] {-1, 2, 16, MOST, LEAST}) {
            refused(BAD, () -> x.far(bad, 0));
            refused(BAD, () -> x.far(0, bad));
            refused(BAD, () -> x.far(bad, bad));
        }
    }

    private static void worth() {
        promise(12);
        says("WORTH of a POST: what it was.");
        x.net(16);
        due(1, x.worth(0, 0));
        due(0, x.worth(0, 9));
        due(9, x.worth(0, 9));
        due(1, x.worth(15, 9));
        due(9, x.worth(15, 0));
        due(0, x.worth(15, 1));
        due(1, x.worth(14, 1));
        says("BAD.");
        x.net(3);
        x.worth(2, 5);
        for (int bad : new int[] {-1, 3, 16, MOST, LEAST}) refused(BAD, () -> x.worth(bad, 1));
        for (int bad : new int[] {-1, 10, MOST, LEAST}) refused(BAD, () -> x.worth(2, bad));
        due(5, x.worth(2, 5));
    }

    private static void base() {
        promise(13);
        says("A POST is a BASE, or not: 1 if it was.");
        x.net(16);
        due(0, x.base(0, false));
        due(0, x.base(0, true));
        due(1, x.base(0, true));
        due(1, x.base(0, false));
        due(0, x.base(0, false));
        due(0, x.base(15, true));
        due(1, x.base(15, false));
        says("BAD.");
        x.net(3);
        x.base(2, true);
        for (int bad : new int[] {-1, 3, 16, MOST, LEAST}) {
            refused(BAD, () -> x.base(bad, true));
            refused(BAD, () -> x.base(bad, false));
        }
        due(1, x.base(2, true));
    }
}
