import java.util.ArrayList;
import java.util.List;
import java.util.function.ToLongFunction;

/** An object of the class with all its calls kept, so that another one can be brought to where it is. */
final class Recorded {
    /** The document promises nothing about later calls, so no test may rest on one. */
    private static final int CALLS_AT_MOST = 512;
    private final WallWalkers real = new WallWalkers();
    private final List<ToLongFunction<WallWalkers>> calls = new ArrayList<>();

    private long call(ToLongFunction<WallWalkers> c) {
        calls.add(c);
        if (calls.size() > CALLS_AT_MOST) throw new IllegalStateException("a test goes beyond " + CALLS_AT_MOST + " calls");
        return c.applyAsLong(real);
    }

    /** A new object after the same calls. */
    Recorded again() {
        Recorded other = new Recorded();
        for (ToLongFunction<WallWalkers> c : calls) other.call(c);
        return other;
    }

    int row(int r, int n) {
        return (int) call(walls -> walls.row(r, n));
    }

    int lay(int r, int i, int v) {
        return (int) call(walls -> walls.lay(r, i, v));
    }

    int tear(int r) {
        return (int) call(walls -> walls.tear(r));
    }

    int copy(int r, int i, int to, int j, int n) {
        return (int) call(walls -> walls.copy(r, i, to, j, n));
    }

    int mean(int r) {
        return (int) call(walls -> walls.mean(r));
    }

    int fence(int r, boolean ring) {
        return (int) call(walls -> walls.fence(r, ring));
    }

    int net(int p) {
        return (int) call(walls -> walls.net(p));
    }

    int wall(int a, int b, int length) {
        return (int) call(walls -> walls.wall(a, b, length));
    }

    int breaks(int a, int b, boolean is) {
        return (int) call(walls -> walls.breaks(a, b, is));
    }

    int far(int a, int b) {
        return (int) call(walls -> walls.far(a, b));
    }

    int worth(int p, int w) {
        return (int) call(walls -> walls.worth(p, w));
    }

    int base(int p, boolean is) {
        return (int) call(walls -> walls.base(p, is));
    }

    int walker(int kind, int a, int b) {
        return (int) call(walls -> walls.walker(kind, a, b));
    }

    int home(int w) {
        return (int) call(walls -> walls.home(w));
    }

    int view(int w, int r) {
        return (int) call(walls -> walls.view(w, r));
    }

    int lose(int w, boolean is) {
        return (int) call(walls -> walls.lose(w, is));
    }

    int told(int w, int what) {
        return (int) call(walls -> walls.told(w, what));
    }

    int mark(int w, int kind) {
        return (int) call(walls -> walls.mark(w, kind));
    }

    int plan(int w, int row, int rests, int start) {
        return (int) call(walls -> walls.plan(w, row, rests, start));
    }

    int unplan(int w) {
        return (int) call(walls -> walls.unplan(w));
    }

    int planned(int w, int i, boolean rests) {
        return (int) call(walls -> walls.planned(w, i, rests));
    }

    int fit(int w) {
        return (int) call(walls -> walls.fit(w));
    }

    int where(int w, int time, int what) {
        return (int) call(walls -> walls.where(w, time, what));
    }

    int joint() {
        return (int) call(walls -> walls.joint());
    }

    int seen(int time) {
        return (int) call(walls -> walls.seen(time));
    }

    int idle(int p) {
        return (int) call(walls -> walls.idle(p));
    }

    int idleFrom(int p) {
        return (int) call(walls -> walls.idleFrom(p));
    }

    int worst() {
        return (int) call(walls -> walls.worst());
    }

    int share(int p) {
        return (int) call(walls -> walls.share(p));
    }

    int chance(int p, int n) {
        return (int) call(walls -> walls.chance(p, n));
    }

    int thief(int n) {
        return (int) call(walls -> walls.thief(n));
    }

    int safe() {
        return (int) call(walls -> walls.safe());
    }

    int peril(int k) {
        return (int) call(walls -> walls.peril(k));
    }

    int meet(int a, int b, int from) {
        return (int) call(walls -> walls.meet(a, b, from));
    }

    int word(int a, int from, int b) {
        return (int) call(walls -> walls.word(a, from, b));
    }

    int spread(int a, int from) {
        return (int) call(walls -> walls.spread(a, from));
    }

    int round() {
        return (int) call(walls -> walls.round());
    }

    int roundAt(int i) {
        return (int) call(walls -> walls.roundAt(i));
    }

    int parting() {
        return (int) call(walls -> walls.parting());
    }

    int partOf(int w, boolean last) {
        return (int) call(walls -> walls.partOf(w, last));
    }

    int fuel(int w) {
        return (int) call(walls -> walls.fuel(w));
    }

    int asked() {
        return (int) call(walls -> walls.asked());
    }

    long upper() {
        return call(walls -> walls.upper());
    }

    long lower() {
        return call(walls -> walls.lower());
    }

    int count(int what) {
        return (int) call(walls -> walls.count(what));
    }

    int finding() {
        return (int) call(walls -> walls.finding());
    }

    int findings(int f) {
        return (int) call(walls -> walls.findings(f));
    }

    long digest() {
        return call(walls -> walls.digest());
    }
}
