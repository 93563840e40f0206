import java.io.IOException;
import java.lang.reflect.Constructor;
import java.lang.reflect.Field;
import java.lang.reflect.Method;
import java.lang.reflect.Modifier;
import java.nio.file.Files;
import java.nio.file.Path;
import java.util.Arrays;
import java.util.TreeSet;
import java.util.regex.Matcher;
import java.util.regex.Pattern;

/** The face of the class, the rules of LANGUAGE.md that its text shows, and what a long run allocates. */
public final class RulesTest {
    private static final String[] FACE = {
        "int addJunction(boolean,int) IllegalArgumentException,IllegalStateException",
        "int addRoad(int,int,int,boolean) IllegalArgumentException,IllegalStateException,IndexOutOfBoundsException",
        "int addStope(int,int,int,int) IllegalArgumentException,IllegalStateException,IndexOutOfBoundsException",
        "boolean join(int,int) IllegalArgumentException,IndexOutOfBoundsException",
        "int setLimit(int) IllegalArgumentException",
        "boolean setSensor(int,int) IllegalArgumentException,IndexOutOfBoundsException",
        "int setRight(int) IndexOutOfBoundsException,NoSuchElementException",
        "char step(char,int,int) IllegalArgumentException,IndexOutOfBoundsException,UnsupportedOperationException",
        "int refusedBy() NoSuchElementException",
        "int shift() ",
        "int flow(int) IndexOutOfBoundsException",
        "int pressure(int) IndexOutOfBoundsException",
        "int gas(int) IndexOutOfBoundsException",
        "boolean isFull(int) IndexOutOfBoundsException",
        "boolean isGood(int) IndexOutOfBoundsException",
        "int reading(int) IndexOutOfBoundsException,NoSuchElementException",
        "boolean hasPower(int) IndexOutOfBoundsException",
        "int come(int) IllegalStateException,IndexOutOfBoundsException,UnsupportedOperationException",
        "boolean walk(int,int) IndexOutOfBoundsException,UnsupportedOperationException",
        "int whereIs(int) IndexOutOfBoundsException",
        "boolean isSafe(int) IndexOutOfBoundsException",
        "boolean isSafeAnew(int) IndexOutOfBoundsException",
        "int ways(int) IndexOutOfBoundsException",
        "int tons(int) IndexOutOfBoundsException",
        "int load(int) IndexOutOfBoundsException",
        "char stateOf(int) IndexOutOfBoundsException",
        "int pile(int) IndexOutOfBoundsException",
        "int deliver(int,int,int) IllegalArgumentException,UnsupportedOperationException",
        "int delivered(int) IndexOutOfBoundsException",
        "boolean isBlocked(int) IndexOutOfBoundsException",
        "int refused() ",
        "int people() ",
        "long penalties() ",
        "float goodShare() ArithmeticException",
        "double meanLoad() ArithmeticException",
        "boolean isSound() ",
    };

    /** What the part of Java that the file keeps to leaves out. */
    private static final String[] FORBIDDEN = {
        "\\btry\\b", "\\bcatch\\b", "\\bfinally\\b", "\\bsynchronized\\b", "\\bassert\\b", "\\bpackage\\b", "->", "::",
        "\\bThread\\b", "\\bSystem\\b", "\\bRandom\\b", "\\bBigInteger\\b", "\\bObject\\b", "\\bMap\\b", "\\bSet\\b",
        "Exact\\(", "\\bNaN\\b", "\\bprotected\\b", "\\bprintln\\b", "\\bvar\\b", "\\bnew \\w+\\[\\]\\[\\]", "\"",
        "@\\w+", "\\btoString\\b", "\\bhashCode\\b", "\\bequals\\b", "\\bswitch\\b",
    };

    private RulesTest() { }

    private static String sortedNames(Class<?>[] classes) {
        String[] names = new String[classes.length];
        for (int i = 0; i < names.length; i++) {
            names[i] = classes[i].getSimpleName();
        }
        Arrays.sort(names);
        return String.join(",", names);
    }

    private static void face() {
        TreeSet<String> due = new TreeSet<>(Arrays.asList(FACE));
        TreeSet<String> got = new TreeSet<>();
        TreeSet<String> publicNames = new TreeSet<>();
        for (Method method : Minestrata.class.getDeclaredMethods()) {
            if (Modifier.isPrivate(method.getModifiers()) || method.isSynthetic()) {
                continue;
            }
            publicNames.add(method.getName());
            StringBuilder types = new StringBuilder();
            for (Class<?> type : method.getParameterTypes()) {
                types.append(types.length() > 0 ? "," : "").append(type.getSimpleName());
            }
            Check.is(method.getName() + " is public alone", method.getModifiers(), Modifier.PUBLIC);
            got.add(method.getReturnType().getSimpleName() + " " + method.getName() + "(" + types + ") "
                    + sortedNames(method.getExceptionTypes()));
        }
        Check.is("the methods", got, due);
        Check.is("a final class", Minestrata.class.getModifiers(), Modifier.PUBLIC | Modifier.FINAL);
        Constructor<?>[] constructors = Minestrata.class.getDeclaredConstructors();
        Check.is("constructors", constructors.length, 1);
        Check.is("its modifiers", constructors[0].getModifiers(), Modifier.PUBLIC);
        Check.is("its parameters", constructors[0].getParameterCount(), 0);
        for (Method method : Minestrata.class.getDeclaredMethods()) {
            boolean isHidden = Modifier.isPrivate(method.getModifiers());
            Check.is(method.getName() + " bears a public name", isHidden && publicNames.contains(method.getName()), false);
        }
        int classes = members(Minestrata.class);
        for (Class<?> inside : Minestrata.class.getDeclaredClasses()) {
            classes += members(inside);
            Check.is(inside + " is static", Modifier.isStatic(inside.getModifiers()), true);
            Check.is(inside + " is public", Modifier.isPublic(inside.getModifiers()), false);
        }
        Check.is("twelve classes at most", classes <= 12, true);
    }

    /** Looks at the fields and methods of a class; answers 1 for it. */
    private static int members(Class<?> type) {
        int fields = 0;
        for (Field field : type.getDeclaredFields()) {
            if (Modifier.isStatic(field.getModifiers())) {
                Check.is(field + " is final", Modifier.isFinal(field.getModifiers()), true);
            } else {
                fields++;
            }
            if (type == Minestrata.class) {
                Check.is(field + " is private", Modifier.isPrivate(field.getModifiers()), true);
            }
        }
        Check.is(type + " has " + fields + " fields, 20 at most", fields <= 20, true);
        for (Method method : type.getDeclaredMethods()) {
            Check.is(method + " has seven parameters at most", method.getParameterCount() <= 7, true);
        }
        return 1;
    }

    private static void text() throws IOException {
        String code = Files.readString(Path.of("src/main/java/Minestrata.java"));
        String bare = code.replaceAll("(?s)/\\*.*?\\*/", "").replaceAll("//[^\n]*", "");
        for (String word : FORBIDDEN) {
            Matcher matcher = Pattern.compile(word).matcher(bare);
            Check.is("found: " + word, matcher.find(), false);
        }
        Check.is("all signs are plain", code.chars().allMatch(c -> c == '\n' || c >= 32 && c < 127), true);
        Matcher imports = Pattern.compile("import ([^;]*);").matcher(bare);
        while (imports.find()) {
            Check.is("import", imports.group(1), "java.util.NoSuchElementException");
        }
        methodLengths(code);
    }

    private static void methodLengths(String code) {
        String[] lines = code.split("\n");
        int start = -1;
        for (int i = 0; i < lines.length; i++) {
            boolean opens = lines[i].endsWith("{") && lines[i].contains(")") || lines[i].startsWith("            throws");
            if (start < 0 && opens && lines[i].matches("( {4}| {8}| {12}throws).*")) {
                start = i;
            }
            if (start >= 0 && lines[i].matches(" {4}( {4})?}")) {
                Check.is("a method of 60 lines at most, line " + (start + 1), i - start < 60, true);
                start = -1;
            }
        }
    }

    /** Everything is made in constructors, and one table at the first delivery. */
    private static void allocation() {
        com.sun.management.ThreadMXBean bean =
                (com.sun.management.ThreadMXBean) java.lang.management.ManagementFactory.getThreadMXBean();
        busy(new Minestrata());
        Minestrata m = new Minestrata();
        long thread = Thread.currentThread().getId();
        long before = bean.getThreadAllocatedBytes(thread);
        busy(m);
        long used = bean.getThreadAllocatedBytes(thread) - before;
        Check.is("bytes allocated in 512 calls, at most 300000: " + used, used <= 300000, true);
    }

    private static void busy(Minestrata m) {
        m.addJunction(true, 10);
        for (int i = 1; i < 9; i++) {
            m.addJunction(false, 0);
        }
        for (int i = 0; i < 14; i++) {
            m.addRoad(i % 9, (i + (i < 9 ? 1 : 4)) % 9, 7 + i, false);
        }
        for (int i = 0; i < 8; i++) {
            m.addStope(i + 1, 60, i * 100, 99);
        }
        m.come(0);
        int calls = 32;
        for (int i = 0; calls < 500; i++, calls += 4) {
            m.step('s', 1 + i % 8, 1 + i % 20);
            m.step('f', i % 14, i % 50);
            m.step('o', i % 8, 1);
            if (i > 10) {
                m.deliver(1, 300, 400);
            }
            m.isSound();
        }
    }

    public static void main(String[] args) throws IOException {
        face();
        text();
        allocation();
        Check.end("RulesTest");
    }
}
