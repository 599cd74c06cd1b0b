import java.io.IOException;
import java.lang.management.ManagementFactory;
import java.lang.reflect.Field;
import java.lang.reflect.Method;
import java.lang.reflect.Modifier;
import java.nio.file.Files;
import java.nio.file.Path;
import java.util.ArrayList;
import java.util.List;
import java.util.Random;
import java.util.TreeSet;
import java.util.regex.Matcher;
import java.util.regex.Pattern;

/** What LANGUAGE.md asks of the source, as far as a test can see it; and that no call throws or makes objects. */
public final class LanguageTest {
    private static final Path SOURCE = Path.of("src/main/java/WallWalkers.java");
    private static final Path DOCUMENT = Path.of("../shared/DOC.md");
    private static final String FACE = "row(II)int lay(III)int tear(I)int copy(IIIII)int mean(I)int fence(IZ)int net(I)int "
        + "wall(III)int breaks(IIZ)int far(II)int worth(II)int base(IZ)int walker(III)int home(I)int view(II)int "
        + "lose(IZ)int told(II)int mark(II)int plan(IIII)int unplan(I)int planned(IIZ)int fit(I)int where(III)int "
        + "joint()int seen(I)int idle(I)int idleFrom(I)int worst()int share(I)int chance(II)int thief(I)int safe()int "
        + "peril(I)int meet(III)int word(III)int spread(II)int round()int roundAt(I)int parting()int partOf(IZ)int "
        + "fuel(I)int asked()int upper()long lower()long count(I)int finding()int findings(I)int digest()long";
    private static int wrong;

    public static void main(String[] args) throws Exception {
        face();
        documentsFace();
        members();
        words();
        methodLengths();
        neverThrows();
        makesNothing();
        System.out.println(wrong == 0 ? "the language is kept to" : wrong + " faults");
        if (wrong != 0) System.exit(1);
    }

    private static void holds(boolean is, String what) {
        if (!is) {
            wrong++;
            System.out.println(what);
        }
    }

    private static String told(Method m) {
        StringBuilder s = new StringBuilder(m.getName()).append('(');
        for (Class<?> type : m.getParameterTypes()) s.append(type == int.class ? "I" : type == boolean.class ? "Z" : "?");
        return s.append(')').append(m.getReturnType().getName()).toString();
    }

    private static List<Method> calls() {
        List<Method> list = new ArrayList<>();
        for (Method m : WallWalkers.class.getDeclaredMethods()) if (Modifier.isPublic(m.getModifiers())) list.add(m);
        list.sort((a, b) -> told(a).compareTo(told(b)));
        return list;
    }

    private static void face() {
        TreeSet<String> has = new TreeSet<>();
        for (Method m : calls()) has.add(told(m));
        holds(has.equals(new TreeSet<>(List.of(FACE.split(" ")))), "rule 1: the face is " + has);
        TreeSet<String> constants = new TreeSet<>();
        for (Field f : WallWalkers.class.getDeclaredFields()) if (!Modifier.isPrivate(f.getModifiers())) constants.add(f.getName());
        holds(constants.toString().equals("[BAD, FINDING, FULL, NONE, SPENT, STATE]"), "rule 1: the constants are " + constants);
        holds(WallWalkers.class.getDeclaredConstructors().length == 1, "rule 1: more than one constructor");
        holds(Modifier.isFinal(WallWalkers.class.getModifiers()), "rule 1: the class is not final");
    }

    /** The face that the document has, line by line, with the values of the constants. */
    private static void documentsFace() throws Exception {
        String text = Files.exists(DOCUMENT) ? Files.readString(DOCUMENT) : "";
        Matcher block = Pattern.compile("(?s)## The public face\\s+```java\n(.*?)```").matcher(text);
        if (!block.find()) {
            holds(text.isEmpty(), "the document has no face");
            return;
        }
        TreeSet<String> asked = new TreeSet<>();
        Matcher call = Pattern.compile("public (int|long) (\\w+)\\((.*)\\);").matcher(block.group(1));
        while (call.find()) {
            String types = call.group(3).replaceAll("boolean \\w+(, )?", "Z").replaceAll("int \\w+(, )?", "I");
            asked.add(call.group(2) + "(" + types + ")" + call.group(1));
        }
        holds(asked.equals(new TreeSet<>(List.of(FACE.split(" ")))), "the document's face is " + asked);
        Matcher constant = Pattern.compile("([A-Z]+) = (-?\\d+)").matcher(block.group(1));
        int constants = 0;
        while (constant.find()) {
            constants++;
            int value = WallWalkers.class.getField(constant.group(1)).getInt(null);
            holds(value == Integer.parseInt(constant.group(2)), constant.group(1) + " is " + value);
        }
        holds(constants == 6, "the document's face has " + constants + " constants");
    }

    private static void members() {
        TreeSet<String> names = new TreeSet<>();
        for (Method m : calls()) names.add(m.getName());
        List<Class<?>> classes = new ArrayList<>(List.of(WallWalkers.class.getDeclaredClasses()));
        holds(classes.size() + 1 <= 12, "rule 11: " + (classes.size() + 1) + " classes");
        for (Class<?> c : classes) holds(Modifier.isStatic(c.getModifiers()), "rule 2: " + c + " is not static");
        classes.add(WallWalkers.class);
        for (Class<?> c : classes) {
            int fields = 0;
            for (Field f : c.getDeclaredFields()) {
                boolean isStatic = Modifier.isStatic(f.getModifiers());
                fields += isStatic ? 0 : 1;
                holds(!isStatic || Modifier.isFinal(f.getModifiers()), "rule 5: " + f + " is not final");
            }
            holds(fields <= 20, "rule 11: " + c + " has " + fields + " fields");
            for (Method m : c.getDeclaredMethods()) {
                holds(m.getParameterCount() <= 7, "rule 11: " + m + " takes too many");
                boolean isCall = c == WallWalkers.class && Modifier.isPublic(m.getModifiers());
                holds(isCall || !names.contains(m.getName()), "rule 1: " + m + " bears the name of a call");
                holds(isCall || c != WallWalkers.class || Modifier.isPrivate(m.getModifiers()), "rule 1: " + m + " is not private");
            }
        }
    }

    private static void words() throws IOException {
        String bare = Files.readString(SOURCE).replaceAll("(?s)/\\*.*?\\*/", "").replaceAll("//.*", "");
        String banned = "\\b(throw|throws|try|catch|synchronized|assert|package|import|instanceof|native|transient|volatile"
            + "|float|double|null|Exact|Object|System\\.(?!arraycopy))\\b|->|::|\\bstatic\\s*\\{|\"";
        Matcher m = Pattern.compile(banned).matcher(bare);
        while (m.find()) holds(false, "the source has " + m.group());
        for (char c : bare.toCharArray()) {
            if (c > 126) {
                holds(false, "a sign above 126 in the source");
                break;
            }
        }
        Matcher library = Pattern.compile("\\b(Math|Integer|Long|System|Arrays)\\.(\\w+)").matcher(bare);
        while (library.find()) {
            holds(List.of("max", "min", "floorMod", "bitCount", "numberOfTrailingZeros", "arraycopy").contains(library.group(2)),
                "the source calls " + library.group());
        }
    }

    private static void methodLengths() throws IOException {
        int from = 0;
        String indent = "";
        int line = 0;
        for (String text : Files.readAllLines(SOURCE)) {
            line++;
            Matcher head = Pattern.compile("^( {4}| {8})\\S[^;=]*\\(.*\\{$").matcher(text);
            if (head.matches()) {
                from = line;
                indent = head.group(1);
            } else if (from > 0 && text.equals(indent + "}")) {
                holds(line - from < 60, "rule 11: the method of line " + from + " has " + (line - from) + " lines");
                from = 0;
            }
        }
    }

    /** Any arguments in any state: numbers of all sizes, with enough that are fine to bring the object far. */
    private static void neverThrows() {
        Random random = new Random(7);
        int[] wild = {-1, -9, -2, 0, 7, 8, 15, 16, 17, 24, 30, 40, 41, 60, 127, 128, 500, 14399, 14400, 100000, 100001,
            Integer.MAX_VALUE, Integer.MIN_VALUE, Integer.MAX_VALUE - 1, 1 << 16, -1 << 16};
        List<Method> calls = calls();
        for (int run = 0; run < 1500; run++) {
            WallWalkers x = new WallWalkers();
            int share = random.nextInt(60);
            StringBuilder log = new StringBuilder();
            for (int i = 0; i < 512; i++) {
                Method m = calls.get(random.nextInt(calls.size()));
                Object[] values = new Object[m.getParameterCount()];
                for (int k = 0; k < values.length; k++) {
                    values[k] = m.getParameterTypes()[k] == boolean.class ? (Object) random.nextBoolean()
                        : random.nextInt(100) < share ? wild[random.nextInt(wild.length)] : random.nextInt(5);
                }
                log.append(m.getName()).append(List.of(values)).append(' ');
                try {
                    m.invoke(x, values);
                } catch (ReflectiveOperationException e) {
                    holds(false, "rule 7: " + e.getCause() + " by " + log);
                    return;
                }
            }
        }
    }

    /** All calls of a run share one room: what an object needs it makes when it is made. */
    private static void makesNothing() {
        com.sun.management.ThreadMXBean bean = (com.sun.management.ThreadMXBean) ManagementFactory.getThreadMXBean();
        long empty = bean.getCurrentThreadAllocatedBytes();
        empty = bean.getCurrentThreadAllocatedBytes() - empty;
        long start = bean.getCurrentThreadAllocatedBytes();
        WallWalkers x = new WallWalkers();
        long made = bean.getCurrentThreadAllocatedBytes() - start - empty;
        holds(made < 60000, "rule 12: an object takes " + made + " bytes");
        work(x);
        start = bean.getCurrentThreadAllocatedBytes();
        for (int i = 0; i < 20; i++) work(x);
        long spent = bean.getCurrentThreadAllocatedBytes() - start - empty;
        holds(spent < 2000, "rule 12: calls make " + spent + " bytes of objects");
    }

    private static void work(WallWalkers x) {
        x.row(0, 10);
        for (int i = 0; i < 10; i++) x.lay(0, i, 1 + i % 2);
        x.fence(0, false);
        x.walker(0, 0, 0);
        x.walker(1, 3, 0);
        x.walker(2, 6, 500);
        x.walker(3, 4, 0);
        for (int w = 0; w < 4; w++) x.view(w, 12);
        x.base(1, true);
        x.worth(0, 0);
        x.row(1, 2);
        x.lay(1, 0, 1);
        x.lay(1, 1, 2);
        for (int w = 0; w < 3; w++) x.plan(w, 1, 0, w * 17);
        x.copy(0, 0, 0, 1, 3);
        x.far(0, 5);
        x.joint();
        x.seen(5);
        x.idle(2);
        x.worst();
        x.share(2);
        x.chance(2, 40);
        x.thief(10);
        x.safe();
        x.peril(2);
        x.meet(0, 1, 5);
        x.word(0, 9, 2);
        x.spread(0, 9);
        x.round();
        x.roundAt(3);
        x.parting();
        x.fuel(2);
        x.where(1, 77, 2);
        x.breaks(4, 5, true);
        x.digest();
    }
}
