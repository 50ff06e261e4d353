import java.lang.management.ManagementFactory;
import java.lang.reflect.Constructor;
import java.lang.reflect.Field;
import java.lang.reflect.Method;
import java.lang.reflect.Modifier;
import java.nio.charset.StandardCharsets;
import java.nio.file.Files;
import java.nio.file.Path;
import java.util.ArrayList;
import java.util.Arrays;
import java.util.HashSet;
import java.util.List;
import java.util.Set;
import java.util.regex.Matcher;
import java.util.regex.Pattern;

/** ../shared/LANGUAGE.md: what of its rules can be seen in the class and in its text; the number is the rule's. */
public final class LanguageTest {
    private static final Path SOURCE = Path.of("src", "main", "java", "RewriteDesk.java");
    private static final Pattern NO_CODE = Pattern.compile("/\\*.*?\\*/|//[^\n]*|\"[^\"\n]*\"|'[^'\n]*'", Pattern.DOTALL);
    private static final Pattern WORD = Pattern.compile("\\w+");
    private static final Pattern FROM_LIBRARY = Pattern.compile("\\b(Math|Arrays|System|Integer|Long|List)\\.(\\w+)");
    private static final Pattern BODY = Pattern.compile("^( {4,8})(?=\\S)[^=;]*\\) \\{$");

    private static final Set<String> RULED_OUT = Set.of("throw", "throws", "try", "catch", "finally", "synchronized",
        "assert", "yield", "var", "native", "volatile", "transient", "equals", "hashCode", "toString", "print", "println");
    private static final Set<String> LIBRARY = Set.of("Math.min", "Math.max", "Math.abs", "Math.floorMod", "Math.floorDiv",
        "Arrays.fill", "Arrays.copyOf", "Arrays.copyOfRange", "System.arraycopy", "Integer.compare", "Integer.bitCount");
    private static final Set<String> IMPORTS = Set.of("java.util.Arrays", "java.util.ArrayList", "java.util.List", "java.util.Iterator");
    private static final Set<Class<?>> CONSTANTS = Set.of(int.class, long.class, boolean.class, char.class, String.class,
        int[].class, long[].class, char[].class, byte[].class);

    private static final int MOST_PARAMETERS = 7;
    private static final int MOST_LINES = 60;
    private static final int MOST_CLASSES = 12;
    private static final int MOST_FIELDS = 20;

    public static void main(String[] args) throws Exception {
        Bench bench = new Bench("LanguageTest");
        String source = Files.readString(SOURCE, StandardCharsets.UTF_8);
        String code = NO_CODE.matcher(source).replaceAll("\"\"");
        List<Class<?>> classes = new ArrayList<>(Arrays.asList(RewriteDesk.class.getDeclaredClasses()));
        bench.due("11: not too many classes: " + classes, classes.size() < MOST_CLASSES, true);
        theClassesInside(bench, classes);
        classes.add(RewriteDesk.class);
        for (Class<?> one : classes) {
            theFields(bench, one);
            theMethods(bench, one);
        }
        theWords(bench, code);
        theLibrary(bench, code);
        theLines(bench, code);
        whatACallMakes(bench);
        bench.close();
    }

    private static void theClassesInside(Bench bench, List<Class<?>> classes) {
        for (Class<?> one : classes) {
            bench.due("1, 2: static, and not to be seen outside: " + one, Modifier.isStatic(one.getModifiers())
                && !Modifier.isPublic(one.getModifiers()) && !Modifier.isProtected(one.getModifiers()), true);
            bench.due("2: no class further inside: " + one, one.getDeclaredClasses().length, 0);
        }
    }

    private static void theFields(Bench bench, Class<?> one) {
        int fields = 0;
        for (Field field : one.getDeclaredFields()) {
            if (field.isSynthetic()) {
                continue;
            }
            if (Modifier.isStatic(field.getModifiers())) {
                bench.due("5: final: " + field, Modifier.isFinal(field.getModifiers()), true);
                bench.due("5: a constant: " + field, CONSTANTS.contains(field.getType()), true);
            } else {
                fields++;
                bench.due("3: a type that may be: " + field, isAllowed(field.getType()), true);
            }
        }
        bench.due("11: not too many fields of " + one + ": " + fields, fields <= MOST_FIELDS, true);
    }

    private static boolean isAllowed(Class<?> type) {
        Class<?> inner = type.isArray() ? type.getComponentType() : type;
        if (inner.isArray()) {
            return inner.getComponentType().isPrimitive();
        }
        return inner.isPrimitive() || inner == String.class || inner.getName().startsWith("RewriteDesk");
    }

    private static void theMethods(Bench bench, Class<?> one) {
        Set<String> face = new HashSet<>();
        for (Method method : RewriteDesk.class.getDeclaredMethods()) {
            if (Modifier.isPublic(method.getModifiers())) {
                face.add(method.getName());
            }
        }
        for (Method method : one.getDeclaredMethods()) {
            bench.due("11: parameters of " + method, method.getParameterCount() <= MOST_PARAMETERS, true);
            if (Modifier.isPrivate(method.getModifiers())) {
                bench.due("1: not the name of a public one: " + method, face.contains(method.getName()), false);
            }
        }
        for (Constructor<?> constructor : one.getDeclaredConstructors()) {
            bench.due("11: parameters of " + constructor, constructor.getParameterCount() <= MOST_PARAMETERS, true);
        }
    }

    private static void theWords(Bench bench, String code) {
        Matcher word = WORD.matcher(code);
        while (word.find()) {
            bench.due("3, 4, 6, 10: not to be there: " + word.group(), RULED_OUT.contains(word.group()), false);
        }
        bench.due("2: no lambda", code.contains("->"), false);
        bench.due("2: no method reference", code.contains("::"), false);
        bench.due("10: no text joined by +", code.contains("\"\" +") || code.contains("+ \"\""), false);
    }

    private static void theLibrary(Bench bench, String code) {
        Matcher called = FROM_LIBRARY.matcher(code);
        while (called.find()) {
            bench.due("4, 13: of the library: " + called.group(), LIBRARY.contains(called.group()), true);
        }
        for (String line : code.split("\n")) {
            if (line.startsWith("import ")) {
                bench.due("4: " + line, IMPORTS.contains(line.substring(7, line.length() - 1)), true);
            }
        }
        bench.due("no package line", code.contains("package "), false);
    }

    /** A method stands from the line that ends in ") {" to the brace that is as far from the margin. */
    private static void theLines(Bench bench, String code) {
        String[] lines = code.split("\n");
        int methods = 0;
        for (int i = 0; i < lines.length; i++) {
            Matcher head = BODY.matcher(lines[i]);
            if (head.find()) {
                int end = i;
                while (end < lines.length && !lines[end].equals(head.group(1) + "}")) {
                    end++;
                }
                bench.due("11: lines of " + lines[i].trim(), end - i < MOST_LINES, true);
                methods++;
            }
        }
        bench.due("the methods are seen: " + methods, methods > 200, true);
    }

    /** 12, and README.md: rows are made when the object is made, and nothing at a call. */
    private static void whatACallMakes(Bench bench) {
        var threads = (com.sun.management.ThreadMXBean) ManagementFactory.getThreadMXBean();
        long me = Thread.currentThread().getId();
        RewriteDesk desk = new RewriteDesk();
        callAll(desk);
        long ahead = threads.getThreadAllocatedBytes(me);
        for (int turn = 0; turn < 100; turn++) {
            callAll(desk);
        }
        long made = threads.getThreadAllocatedBytes(me) - ahead;
        bench.due("12: bytes made by a hundred times each call: " + made, made < 1000, true);
    }

    private static final String TEXT = "type a; sort s : a -> a; rule r node x : a; not node y : a; link l : x - s -> y; end "
        + "if -(x.0 * 2) <= x.1; new z : a; join x - s -> z; end proc p try all r; then loop 2 any r; end else fail; end end ";
    private static final int[] WORDS = words();

    private static int[] words() {
        int[] words = new int[(TEXT.length() + 19) / 20 * 5];
        for (int i = 0; i < words.length * 4; i++) {
            words[i / 4] = words[i / 4] << 8 | (i < TEXT.length() ? TEXT.charAt(i) : ' ');
        }
        return words;
    }

    private static int callAll(RewriteDesk desk) {
        int answers = 0;
        for (int i = 0; i < WORDS.length; i += 5) {
            answers += desk.feed(WORDS[i], WORDS[i + 1], WORDS[i + 2], WORDS[i + 3], WORDS[i + 4]);
        }
        answers += desk.back(1) + desk.read() + desk.place() + desk.node(0) + desk.node(0) + desk.link(0, 0, 1);
        answers += desk.attribute(0, 1, 5) && desk.cut(0) && desk.remove(1) && desk.keep(0) ? 1 : 0;
        answers += desk.nodeOf(0, 4) + desk.linkOf(0, 1) + desk.matches(0) + (desk.match(0, 0) ? 1 : 0);
        answers += desk.image(0, false) + desk.apply(0) + desk.same(0) + (desk.undo(1) ? 1 : 0) + desk.same(0);
        answers += (desk.begin(0) ? 1 : 0) + desk.run(2) + desk.run(40) + desk.count(6);
        return answers;
    }
}
