import java.io.IOException;
import java.nio.file.Files;
import java.nio.file.Path;
import java.util.ArrayList;
import java.util.LinkedHashMap;
import java.util.List;
import java.util.Map;
import java.util.function.LongSupplier;

/** What the tests share: an object under test, what is due of it, what is refused, and which sentence says so. */
abstract class Checks {
    static final int BAD = -1, FULL = -2, FINDING = -3, STATE = -4, SPENT = -6, NONE = -9;
    static final int NOTHING = 1, BEYOND = 2, UNLIKE = 3, NOUGHT = 4, SIZE = 5;
    static final int MOST = Integer.MAX_VALUE, LEAST = Integer.MIN_VALUE;
    private static final Path DOCUMENT = Path.of("../shared/DOC.md");
    private static final Map<String, List<String>> quotes = new LinkedHashMap<>();
    private static String section = "";
    private static String sentence = "";
    private static int wrong;
    private static int held;
    static Recorded x = new Recorded();

    // ---- which sentence is held to

    static void promise(int number) {
        section = "Promise " + number + ":";
        sentence = "";
        fresh();
    }

    static void terms() {
        section = "Terms";
        sentence = "";
        fresh();
    }

    /** What follows holds the class to these words of the document, on a new object. */
    static void says(String words) {
        sentence = words;
        quotes.computeIfAbsent(section, s -> new ArrayList<>()).add(words);
        fresh();
    }

    // ---- what is due

    static void due(long want, long got) {
        held++;
        if (got != want) fault(got + ", due is " + want);
    }

    private static void fault(String what) {
        wrong++;
        System.out.println(section + " " + sentence + " [line " + line() + "] " + what);
    }

    /** The line of the test itself from which a helper was called. */
    private static int line() {
        for (StackTraceElement e : new Throwable().getStackTrace()) {
            if (!e.getClassName().startsWith("Checks")) return e.getLineNumber();
        }
        return 0;
    }

    /** A call that must be refused with a number that is no FINDING, and change nothing. */
    static void refused(int want, LongSupplier call) {
        refusedWith(want, 0, call);
    }

    /** A call that must be refused with a FINDING, and change nothing but finding() and findings(). */
    static void found(int finding, LongSupplier call) {
        refusedWith(FINDING, finding, call);
    }

    /** The call is made on objects that went the same way, so that the one under test is not used up by it. */
    private static void refusedWith(int want, int finding, LongSupplier call) {
        Recorded main = x;
        long[] before = findings(main.again());
        x = main.again();
        due(want, call.getAsLong());
        long[] after = findings(x);
        due(finding > 0 ? finding : before[0], after[0]);
        for (int f = 1; f <= 5; f++) due(before[f] + (f == finding ? 1 : 0), after[f]);
        for (int group = 0; group < Questions.GROUPS; group++) {
            x = main.again();
            call.getAsLong();
            sameAnswers(Questions.answersOf(group, main.again()), Questions.answersOf(group, x));
        }
        x = main;
    }

    private static long[] findings(Recorded r) {
        long[] all = new long[6];
        all[0] = r.finding();
        for (int f = 1; f <= 5; f++) all[f] = r.findings(f);
        return all;
    }

    private static void sameAnswers(List<String> before, List<String> after) {
        held++;
        for (int i = 0; i < Math.max(before.size(), after.size()); i++) {
            String was = i < before.size() ? before.get(i) : "nothing";
            String is = i < after.size() ? after.get(i) : "nothing";
            if (!was.equals(is)) {
                fault("a refused call changed " + was + " to " + is);
                return;
            }
        }
    }

    static void fraction(long top, long bottom) {
        due(top, x.upper());
        due(bottom, x.lower());
    }

    // ---- how an object is brought somewhere

    static void fresh() {
        x = new Recorded();
    }

    static void put(int r, int... bytes) {
        x.row(r, bytes.length);
        for (int i = 0; i < bytes.length; i++) {
            if (bytes[i] != 0) x.lay(r, i, bytes[i]);
        }
    }

    /** A row of n bytes that are all the same. */
    static void fill(int r, int n, int v) {
        int[] bytes = new int[n];
        java.util.Arrays.fill(bytes, v);
        put(r, bytes);
    }

    static void fence(int... lengths) {
        put(7, lengths);
        x.fence(7, false);
    }

    static void ring(int... lengths) {
        put(7, lengths);
        x.fence(7, true);
    }

    static void plan(int w, int start, int... posts) {
        put(6, posts);
        x.plan(w, 6, NONE, start);
    }

    static void rested(int w, int start, int[] posts, int... rests) {
        put(6, posts);
        put(5, rests);
        x.plan(w, 6, 5, start);
    }

    /** A walker more whose period is so many parts above the greatest joint, on a fence that is made for it. */
    static void brim(int above) {
        fence(30, 30, 30, 30);
        int w = x.walker(0, 0, 0);
        rested(w, 0, new int[] {0, 1, 2, 3, 4, 3, 2, 1}, above);
    }

    // ---- the end of a test

    /** Tells what was not as due; with a document at hand, also what it says that no test quoted. */
    static void end(String what) {
        for (String s : quotes.keySet()) compareWithDocument(s);
        System.out.println(wrong == 0 ? what + ": " + held + " answers are as due" : wrong + " are not as due");
        if (wrong != 0) System.exit(1);
    }

    private static void compareWithDocument(String name) {
        section = name;
        sentence = "";
        String text = textOf(name);
        if (text.isEmpty()) return;
        boolean[] quoted = new boolean[text.length()];
        for (String words : quotes.get(name)) {
            int at = text.indexOf(words);
            if (at < 0) fault("the document does not say: " + words);
            while (at >= 0) {
                java.util.Arrays.fill(quoted, at, at + words.length(), true);
                at = text.indexOf(words, at + 1);
            }
        }
        StringBuilder left = new StringBuilder();
        for (int i = 0; i < text.length(); i++) left.append(quoted[i] ? '|' : text.charAt(i));
        for (String words : left.toString().split("\\|+")) {
            if (words.matches(".*[A-Za-z0-9].*")) fault("no test holds to: " + words);
        }
    }

    /** The words under a heading, without the signature of the call and the notes on the interface. */
    private static String textOf(String name) {
        StringBuilder text = new StringBuilder();
        boolean inside = false;
        try {
            for (String line : Files.exists(DOCUMENT) ? Files.readAllLines(DOCUMENT) : List.<String>of()) {
                if (line.startsWith("## ")) inside = line.startsWith("## " + name);
                else if (inside && !line.startsWith("Ahead of the calls") && !line.startsWith("```")) text.append(line).append(' ');
            }
        } catch (IOException e) {
            System.out.println("the document can't be read: " + e);
        }
        return text.toString().replaceFirst("^\\s*`[^`]*`: ", "").replaceAll("=====+", "").replaceAll("\\s+", " ").trim();
    }
}
