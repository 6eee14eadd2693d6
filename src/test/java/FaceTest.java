import java.lang.reflect.Constructor;
import java.lang.reflect.Field;
import java.lang.reflect.Method;
import java.lang.reflect.Modifier;
import java.nio.file.Files;
import java.nio.file.Path;
import java.util.Arrays;
import java.util.HashSet;
import java.util.List;
import java.util.Set;
import java.util.TreeSet;

/** The public face as the document prints it, and such rules of LANGUAGE.md as can be looked at from outside. */
public final class FaceTest {
    private static final Checks CHECKS = new Checks("face");
    private static final String SOURCE = "src/main/java/LedStrangers.java";

    /** Name, how many ints it takes, and what it throws: N, I, B for the three exceptions, in the document's order. */
    private static final String[] FACE = {"feed 5 -", "town 1 I", "fault 0 -", "told 1 I", "far 2 B", "way 3 B",
        "person 2 NI", "stranger 2 NI", "tell 2 NI", "day 2 I", "leads 3 NI", "there 2 NI", "lost 2 NI", "fees 1 I",
        "judge 1 I", "match 1 I", "matched 1 N", "bound 0 -", "hand 3 NI", "saves 1 B", "which 0 -", "where 2 I",
        "many 2 I", "corner 1 I", "other 0 -", "rest 1 N", "avoid 1 N", "learn 1 I", "soon 0 -", "seed 3 I", "mean 2 I",
        "image 0 -", "restore 0 -", "count 1 -"};

    private static final String[] FORBIDDEN = {"->", "::", "Exact", "finally", "synchronized", "assert", "catch", "try ",
        "instanceof", "static {", "System.out", "System.nano", "System.current", "Random", "Thread", "package "};

    public static void main(String[] args) throws Exception {
        CHECKS.about("promises 1 to 35, the public face");
        membersAreTheFace();
        CHECKS.about("LANGUAGE.md");
        classesInsideKeepTheRules();
        sourceKeepsTheRules();
        callsMakeNoObjects();
        CHECKS.end();
    }

    private static void membersAreTheFace() throws Exception {
        Class<?> c = LedStrangers.class;
        CHECKS.due("public and final", c.getModifiers() & (Modifier.PUBLIC | Modifier.FINAL),
                Modifier.PUBLIC | Modifier.FINAL);
        Set<String> got = new TreeSet<>();
        for (Method m : c.getDeclaredMethods()) {
            if (!Modifier.isPrivate(m.getModifiers())) {
                got.add(described(m));
            }
        }
        same("methods", got, new TreeSet<>(Arrays.asList(FACE)));
        Set<String> fields = new TreeSet<>();
        for (Field f : c.getDeclaredFields()) {
            if (!Modifier.isPrivate(f.getModifiers())) {
                fields.add(f.getName());
            }
        }
        same("fields", fields, Set.of("NONE"));
        Constructor<?>[] constructors = c.getDeclaredConstructors();
        CHECKS.due("one constructor", constructors.length, 1);
        CHECKS.due("a public one", constructors[0].getModifiers(), Modifier.PUBLIC);
        CHECKS.due("without arguments", constructors[0].getParameterCount(), 0);
    }

    private static String described(Method m) {
        StringBuilder thrown = new StringBuilder();
        for (Class<?> e : m.getExceptionTypes()) {
            thrown.append(e == IndexOutOfBoundsException.class ? "B" : e.getSimpleName().substring(0, 1));
        }
        boolean isPlain = m.getModifiers() == Modifier.PUBLIC && m.getReturnType() == int.class
                && Arrays.stream(m.getParameterTypes()).allMatch(t -> t == int.class);
        return m.getName() + " " + m.getParameterCount() + " " + (thrown.length() == 0 ? "-" : thrown)
                + (isPlain ? "" : " (not of ints)");
    }

    private static void classesInsideKeepTheRules() {
        Set<String> faceNames = new HashSet<>();
        for (String row : FACE) {
            faceNames.add(row.substring(0, row.indexOf(' ')));
        }
        Class<?>[] inside = LedStrangers.class.getDeclaredClasses();
        CHECKS.due("at most twelve classes", inside.length + 1 <= 12 ? 1 : 0, 1);
        for (Class<?> c : inside) {
            CHECKS.due(c.getName() + " is static", Modifier.isStatic(c.getModifiers()) ? 1 : 0, 1);
            CHECKS.due(c.getName() + " is not public", c.getModifiers() & (Modifier.PUBLIC | Modifier.PROTECTED), 0);
            int fields = 0;
            for (Field f : c.getDeclaredFields()) {
                fields += Modifier.isStatic(f.getModifiers()) ? 0 : 1;
            }
            CHECKS.due(c.getName() + " has at most twenty fields", fields <= 20 ? 1 : 0, 1);
            for (Method m : c.getDeclaredMethods()) {
                CHECKS.due(c.getName() + "." + m.getName() + " has a name of the face",
                        faceNames.contains(m.getName()) ? 1 : 0, 0);
                CHECKS.due(m.getName() + " takes at most seven", m.getParameterCount() <= 7 ? 1 : 0, 1);
            }
        }
        for (Method m : LedStrangers.class.getDeclaredMethods()) {
            boolean isHidden = Modifier.isPrivate(m.getModifiers());
            CHECKS.due("private " + m.getName(), isHidden && faceNames.contains(m.getName()) ? 1 : 0, 0);
        }
    }

    private static void sourceKeepsTheRules() throws Exception {
        List<String> lines = Files.readAllLines(Path.of(SOURCE));
        Set<String> imports = new TreeSet<>();
        int methodStart = -1;
        for (int i = 0; i < lines.size(); i++) {
            String line = lines.get(i);
            String code = line.replaceAll("//.*", "").replaceAll("^\\s*/?\\*.*", "").replaceAll("\"[^\"]*\"", "\"\"");
            if (code.startsWith("import ")) {
                imports.add(code);
            }
            for (String word : FORBIDDEN) {
                CHECKS.due("line " + (i + 1) + ": " + word, code.contains(word) ? 1 : 0, 0);
            }
            CHECKS.due("line " + (i + 1) + ": signs below 128", line.chars().allMatch(s -> s < 128) ? 1 : 0, 1);
            if (code.matches("( {4}| {8})[^ ].*\\) ?(throws [A-Za-z, ]+)?\\{")) {
                methodStart = i;
            } else if (code.matches("( {4}| {8})\\}") && methodStart >= 0) {
                CHECKS.due("line " + (methodStart + 1) + ": a short method", i - methodStart <= 60 ? 1 : 0, 1);
                methodStart = -1;
            }
        }
        same("imports", imports, new TreeSet<>(Set.of("import java.util.Arrays;", "import java.util.NoSuchElementException;")));
    }

    /** All calls of a run live in one room, so that none may make anything but an exception. */
    private static void callsMakeNoObjects() {
        LedStrangers x = Checks.of("places 12;street 0 1 5;street 1 2 5;street 2 3 5;street 3 4 1;street 4 5 2;"
                + "street 5 6 7;street 6 7 8;person 0 7 0 5;person 7 0 0 9;person 3 6 1 2;person 0 3 4 5;person 0 3 9 5;"
                + "person 5 1 4 5;person 2 6 4 5;person 7 4 4 5;person 3 2 4 5;person 1 6 4 5;stranger 0 7 0;"
                + "stranger 7 0 0;stranger 3 6 1;stranger 1 4 0;stranger 4 1 0;stranger 0 2 0;chance 0 3;law 1;guide 0 1;");
        com.sun.management.ThreadMXBean bean =
                (com.sun.management.ThreadMXBean) java.lang.management.ManagementFactory.getThreadMXBean();
        callAll(x);
        long before = bean.getCurrentThreadAllocatedBytes();
        for (int i = 0; i < 6; i++) {
            callAll(x);
        }
        long made = bean.getCurrentThreadAllocatedBytes() - before;
        CHECKS.due("bytes made by calls: " + made, made < 4096 ? 1 : 0, 1);
        long start = bean.getCurrentThreadAllocatedBytes();
        LedStrangers other = new LedStrangers();
        long ofOne = bean.getCurrentThreadAllocatedBytes() - start;
        CHECKS.due("bytes of a new object: " + ofOne, ofOne < 100_000 && other.fault() == -1 ? 1 : 0, 1);
    }

    private static void callAll(LedStrangers x) {
        x.feed(0x6c617720, 0x313b6c6c, 0, 0, 0);
        x.town(8);
        for (int what = 0; what < 2; what++) {
            x.match(what);
            x.where(what, 0);
            x.many(what, what);
            x.hand(what, 2, what);
            x.judge(what);
            x.tell(what, what);
            x.avoid(what);
            x.rest(what);
            x.saves(what);
            x.corner(what);
        }
        for (int kind = 0; kind < 5; kind++) {
            x.day(kind, 0);
            x.leads(kind, 0, 0);
            x.there(kind, 0);
            x.lost(kind, 0);
            x.fees(kind);
            x.seed(kind, 7, 0);
        }
        x.matched(0);
        x.bound();
        x.which();
        x.other();
        x.learn(99);
        x.soon();
        x.mean(3, 99);
        x.image();
        x.restore();
        x.count(0);
        x.way(0, 7, 3);
        x.person(0, 5);
        x.stranger(0, 4);
    }

    private static void same(String what, Set<String> got, Set<String> want) {
        CHECKS.due(what + " " + got + ", due " + want, got.equals(want) ? 1 : 0, 1);
    }
}
