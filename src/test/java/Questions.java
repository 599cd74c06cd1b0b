import java.util.ArrayList;
import java.util.List;

/** All that an object can be asked, in groups that are short enough to be asked behind a long run of calls. */
final class Questions {
    static final int GROUPS = 4;
    private final Recorded x;
    private final List<String> answers = new ArrayList<>();

    private Questions(Recorded x) {
        this.x = x;
    }

    static List<String> answersOf(int group, Recorded x) {
        Questions q = new Questions(x);
        switch (group) {
            case 0 -> q.whatIsTold();
            case 1 -> q.walkers();
            case 2 -> q.posts();
            default -> q.meetings();
        }
        return q.answers;
    }

    private void note(String call, long answer) {
        answers.add(call + " = " + answer);
    }

    private void noteFraction(String call, long answer) {
        note(call, answer);
        note(call + " upper", x.upper());
        note(call + " lower", x.lower());
    }

    private void whatIsTold() {
        note("asked", x.asked());
        note("upper", x.upper());
        note("lower", x.lower());
        for (int what = 0; what <= 6; what++) note("count " + what, x.count(what));
        for (int w = 0; w < 8; w++) {
            note("partOf first " + w, x.partOf(w, false));
            note("partOf last " + w, x.partOf(w, true));
        }
        note("digest", x.digest());
    }

    private void walkers() {
        int many = x.count(4);
        for (int w = 0; w < many; w++) {
            for (int what = 0; what <= 6; what++) note("told " + w + " " + what, x.told(w, what));
            for (int kind = 0; kind <= 3; kind++) note("mark " + w + " " + kind, x.mark(w, kind));
            note("fit " + w, x.fit(w));
            note("fuel " + w, x.fuel(w));
            for (int what = 0; what <= 2; what++) note("where " + w + " " + what, x.where(w, 1234, what));
        }
    }

    private void posts() {
        int many = x.count(1);
        for (int p = 0; p < many; p++) {
            note("far " + p, x.far(0, p));
            note("idle " + p, x.idle(p));
            note("idleFrom " + p, x.idleFrom(p));
            noteFraction("chance " + p, x.chance(p, 50));
        }
        note("joint", x.joint());
        note("seen", x.seen(77));
        note("asked by seen", x.asked());
        note("worst", x.worst());
        note("asked by worst", x.asked());
        note("safe", x.safe());
        note("peril", x.peril(1));
        note("asked by peril", x.asked());
        noteFraction("thief", x.thief(100));
        note("round", x.round());
        for (int i = 0; i < 11; i++) note("roundAt " + i, x.roundAt(i));
    }

    private void meetings() {
        int many = x.count(4);
        for (int a = 0; a < many; a++) {
            for (int b = a + 1; b < many; b++) noteFraction("meet " + a + " " + b, x.meet(a, b, 100));
            noteFraction("word " + a, x.word(a, 40, many - 1 - a));
            note("spread " + a, x.spread(a, 0));
        }
        note("parting", x.parting());
    }
}
