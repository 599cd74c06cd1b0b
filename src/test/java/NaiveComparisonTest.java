import java.util.ArrayList;
import java.util.List;
import java.util.Random;

/** Runs of random calls, each answered by WallWalkers and by NaiveWalls: the two must tell the same. */
public final class NaiveComparisonTest {
    private final Random random;
    private final WallWalkers x = new WallWalkers();
    private final NaiveWalls y = new NaiveWalls();
    private final List<String> log = new ArrayList<>();
    private boolean same = true;

    private NaiveComparisonTest(long seed) {
        random = new Random(seed);
    }

    public static void main(String[] args) {
        int runs = args.length > 0 ? Integer.parseInt(args[0]) : 400;
        long first = args.length > 1 ? Long.parseLong(args[1]) : 1;
        int wrong = 0;
        for (long seed = first; seed < first + runs; seed++) {
            NaiveComparisonTest test = new NaiveComparisonTest(seed);
            if (!test.run()) {
                wrong++;
                System.out.println("seed " + seed + ":");
                test.log.forEach(line -> System.out.println("  " + line));
                if (wrong >= 3) break;
            }
        }
        System.out.println(wrong == 0 ? runs + " random runs told the same" : wrong + " random runs told otherwise");
        if (wrong != 0) System.exit(1);
    }

    private void due(String call, long got, long want) {
        log.add(call + " = " + got);
        if (got != want && same) {
            same = false;
            log.add("^^^ due is " + want);
        }
    }

    private int below(int n) {
        return random.nextInt(n);
    }

    private boolean often(int percent) {
        return below(100) < percent;
    }

    /** Mostly a number from 0 to n - 1, now and then one beside them. */
    private int about(int n) {
        return often(96) ? below(Math.max(1, n)) : new int[] {-1, n, n + 1, Integer.MAX_VALUE, Integer.MIN_VALUE, -9}[below(6)];
    }

    private boolean run() {
        makeGround();
        int walkers = 1 + below(5);
        for (int i = 0; i < walkers; i++) makeWalker();
        int calls = 40;
        for (int i = 0; i < calls && same; i++) {
            if (often(25)) change(); else ask();
            if (often(20)) tellAll();
        }
        tellAll();
        due("digest", x.digest(), y.digest());
        return same;
    }

    private void tellAll() {
        due("asked", x.asked(), y.told);
        due("upper", x.upper(), y.top);
        due("lower", x.lower(), y.bottom);
        due("finding", x.finding(), y.latest);
        for (int f = 0; f <= 6; f++) due("findings " + f, x.findings(f), y.findings(f));
        if (often(30)) due("digest", x.digest(), y.digest());
    }

    private void row(int r, int[] bytes) {
        due("row " + r + " " + bytes.length, x.row(r, bytes.length), y.row(r, bytes.length));
        for (int i = 0; i < bytes.length; i++) {
            due("lay " + r + " " + i + " " + bytes[i], x.lay(r, i, bytes[i]), y.lay(r, i, bytes[i]));
        }
    }

    private int someLength() {
        return often(70) ? 1 + below(4) : often(60) ? new int[] {6, 8, 10, 12}[below(4)] : 1 + below(30);
    }

    private void makeGround() {
        int kind = below(3);
        if (kind == 2) {
            int posts = 2 + below(often(20) ? 15 : 6);
            due("net " + posts, x.net(posts), y.net(posts));
            int walls = posts + below(posts * 2);
            for (int i = 0; i < walls; i++) {
                wall(below(posts), i < posts ? i : below(posts), someLength());
            }
            return;
        }
        int[] lengths = new int[kind + 2 + below(often(15) ? 13 : 5)];
        for (int i = 0; i < lengths.length; i++) lengths[i] = someLength();
        row(0, lengths);
        due("fence " + kind, x.fence(0, kind == 1), y.fence(0, kind == 1));
    }

    private void wall(int a, int b, int length) {
        due("wall " + a + " " + b + " " + length, x.wall(a, b, length), y.wall(a, b, length));
    }

    private void makeWalker() {
        int kind = often(15) ? 3 : below(3);
        int a = kind == 3 ? about(y.posts) : often(96) ? 1 + below(6) : about(8);
        int b = often(96) ? 1 + below(often(50) ? 40 : 500) : about(502);
        due("walker " + kind + " " + a + " " + b, x.walker(kind, a, b), y.walker(kind, a, b));
        int w = y.men.size() - 1;
        if (w < 0) return;
        if (often(50)) {
            int r = often(70) ? below(10) : about(41);
            due("view " + w + " " + r, x.view(w, r), y.view(w, r));
        }
        if (often(95)) makePlan(w);
    }

    /** A closed way over walls, found by going at random and turning home when it can. */
    private void makePlan(int w) {
        List<Integer> way = new ArrayList<>();
        int at = below(y.posts);
        int first = at;
        int most = 2 + below(often(80) ? 8 : 23);
        for (int step = 0; step < 60 && way.size() < 24; step++) {
            List<Integer> next = new ArrayList<>();
            for (int p = 0; p < y.posts; p++) {
                if (y.length[at][p] > 0 && (often(90) || !y.broken[at][p])) next.add(p);
            }
            way.add(at);
            if (next.isEmpty()) break;
            if (way.size() >= most && next.contains(first)) break;
            at = next.get(below(next.size()));
            if (way.size() >= 2 && at == first && often(40)) break;
        }
        if (often(3)) way.add(below(18));
        int[] bytes = way.stream().mapToInt(Integer::intValue).toArray();
        row(1, bytes);
        int rests = -9;
        if (often(50)) {
            int[] rest = new int[below(bytes.length + 2)];
            for (int i = 0; i < rest.length; i++) rest[i] = often(60) ? 0 : often(70) ? 10 * below(13) : below(256);
            row(2, rest);
            rests = 2;
        }
        int start = often(50) ? 10 * below(60) : about(14400);
        due("plan " + w + " 1 " + rests + " " + start, x.plan(w, 1, rests, start), y.plan(w, 1, rests, start));
    }

    private void change() {
        int w = about(y.men.size());
        int p = about(y.posts);
        int q = about(y.posts);
        boolean is = often(50);
        switch (below(14)) {
            case 0 -> { if (often(20)) makeGround(); }
            case 1 -> wall(p, q, often(90) ? 1 + below(30) : about(32));
            case 2, 3 -> due("breaks " + p + " " + q + " " + is, x.breaks(p, q, is), y.breaks(p, q, is));
            case 4, 5 -> {
                int v = often(40) ? 0 : about(10);
                due("worth " + p + " " + v, x.worth(p, v), y.worth(p, v));
            }
            case 6 -> due("base " + p + " " + is, x.base(p, is), y.base(p, is));
            case 7 -> makeWalker();
            case 8 -> { if (often(20)) due("home " + w, x.home(w), y.home(w)); }
            case 9 -> {
                int r = about(41);
                due("view " + w + " " + r, x.view(w, r), y.view(w, r));
            }
            case 10 -> due("lose " + w + " " + is, x.lose(w, is), y.lose(w, is));
            case 11 -> { if (w >= 0 && w < y.men.size()) makePlan(w); }
            case 12 -> { if (often(20)) due("unplan " + w, x.unplan(w), y.unplan(w)); }
            default -> changeRow();
        }
    }

    private void changeRow() {
        int r = about(8);
        int to = about(8);
        int i = about(12);
        int j = about(12);
        int n = about(12);
        switch (below(5)) {
            case 0 -> {
                int size = about(41);
                due("row " + r + " " + size, x.row(r, size), y.row(r, size));
            }
            case 1 -> {
                int v = random.nextInt();
                due("lay " + r + " " + i + " " + v, x.lay(r, i, v), y.lay(r, i, v));
            }
            case 2 -> due("tear " + r, x.tear(r), y.tear(r));
            case 3 -> due("copy " + r + " " + i + " " + to + " " + j + " " + n, x.copy(r, i, to, j, n), y.copy(r, i, to, j, n));
            default -> due("mean " + r, x.mean(r), y.mean(r));
        }
    }

    private void ask() {
        int w = about(y.men.size());
        int v = about(y.men.size());
        int p = about(y.posts);
        int q = about(y.posts);
        int time = often(80) ? below(14400) : about(100001);
        int need = often(60) ? 1 + below(300) : about(14402);
        int from = often(80) ? below(2000) : about(14400);
        int what = about(7);
        boolean is = often(50);
        switch (below(26)) {
            case 0 -> due("far " + p + " " + q, x.far(p, q), y.far(p, q));
            case 1 -> due("told " + w + " " + what, x.told(w, what), y.told(w, what));
            case 2 -> due("mark " + w + " " + what, x.mark(w, what), y.mark(w, what));
            case 3 -> due("planned " + w + " " + q + " " + is, x.planned(w, q, is), y.planned(w, q, is));
            case 4 -> due("fit " + w, x.fit(w), y.fit(w));
            case 5 -> due("where " + w + " " + time + " " + what, x.where(w, time, what), y.where(w, time, what));
            case 6 -> due("joint", x.joint(), y.joint());
            case 7 -> due("seen " + time, x.seen(time), y.seen(time));
            case 8 -> due("idle " + p, x.idle(p), y.idle(p));
            case 9 -> due("idleFrom " + p, x.idleFrom(p), y.idleFrom(p));
            case 10 -> due("worst", x.worst(), y.worst());
            case 11 -> due("share " + p, x.share(p), y.share(p));
            case 12 -> due("chance " + p + " " + need, x.chance(p, need), y.chance(p, need));
            case 13 -> due("thief " + need, x.thief(need), y.thief(need));
            case 14 -> due("safe", x.safe(), y.safe());
            case 15 -> askPeril();
            case 16, 17 -> due("meet " + w + " " + v + " " + from, x.meet(w, v, from), y.meet(w, v, from));
            case 18, 19 -> due("word " + w + " " + from + " " + v, x.word(w, from, v), y.word(w, from, v));
            case 20 -> due("spread " + w + " " + from, x.spread(w, from), y.spread(w, from));
            case 21 -> askRound();
            case 22, 23 -> askParting();
            case 24 -> due("fuel " + w, x.fuel(w), y.fuel(w));
            default -> due("count " + what, x.count(what), y.count(what));
        }
    }

    private void askPeril() {
        int k = often(90) ? below(3) : about(4);
        due("peril " + k, x.peril(k), y.peril(k));
        due("asked", x.asked(), y.told);
    }

    private void askRound() {
        due("round", x.round(), y.round());
        for (int i = -1; i <= 10; i++) due("roundAt " + i, x.roundAt(i), y.roundAt(i));
    }

    private void askParting() {
        due("parting", x.parting(), y.parting());
        for (int w = -1; w <= 8; w++) {
            due("partOf " + w, x.partOf(w, false), y.partOf(w, false));
            due("partOf last " + w, x.partOf(w, true), y.partOf(w, true));
        }
    }
}
