import java.lang.reflect.Constructor;
import java.lang.reflect.Field;
import java.lang.reflect.Method;
import java.lang.reflect.Modifier;
import java.nio.charset.StandardCharsets;
import java.nio.file.Files;
import java.nio.file.Path;
import java.util.ArrayList;
import java.util.Arrays;
import java.util.Collections;
import java.util.HashMap;
import java.util.List;
import java.util.Map;
import java.util.TreeSet;
import java.util.regex.Matcher;
import java.util.regex.Pattern;

/** The face as the document writes it, and those rules of LANGUAGE.md that a look at the text can tell. */
public final class KnockPipesRules {
    static final String FACE = "int day(int,long) int feed(long,int) int house() int told(int) int warmth(int)"
        + " int noise(int,int,int,int) int of(int,int) int still(int,boolean) int knocks(int,int,int)"
        + " int loud(int,int,int) int heard(int,int) int seems(int) int note(int,int,int) int clear() int fits(int)"
        + " int odds(int,int) int which(int) int next() int least(int,int) int eased(int,int) long parted(int,int)"
        + " int quiet(int) int moved(int,int) int older() int harm(int) int act(int,int,int) int trace(int)"
        + " int as(int,int) int image() int undo() int count(int)";
    static int wrong = 0;

    static void must(boolean is, String what) {
        if (is) return;
        wrong++;
        System.out.println("not so: " + what);
    }

    public static void main(String[] args) throws Exception {
        face();
        classes();
        text(Files.readString(Path.of("src/main/java/KnockPipes.java"), StandardCharsets.UTF_8));
        everyPromiseIsTried();
        room();
        System.out.println(wrong == 0 ? "the face and the rules are kept" : wrong + " rules are not kept");
        if (wrong != 0) System.exit(1);
    }

    static void face() {
        Class<?> c = KnockPipes.class;
        must(c.getModifiers() == (Modifier.PUBLIC | Modifier.FINAL), "public and final");
        List<String> methods = new ArrayList<>();
        for (Method m : c.getDeclaredMethods()) {
            if (Modifier.isPrivate(m.getModifiers())) continue;
            must(m.getModifiers() == Modifier.PUBLIC, m + " is public and no more");
            String types = String.join(",", Arrays.stream(m.getParameterTypes()).map(Class::getName).toList());
            methods.add(m.getReturnType().getName() + " " + m.getName() + "(" + types + ")");
        }
        List<String> due = new ArrayList<>(List.of(FACE.split("(?<=\\)) ")));
        Collections.sort(methods);
        Collections.sort(due);
        must(methods.equals(due), "the methods are " + due + " and not " + methods);
        Constructor<?>[] constructors = c.getDeclaredConstructors();
        must(constructors.length == 1 && constructors[0].getParameterCount() == 0
            && constructors[0].getModifiers() == Modifier.PUBLIC, "one constructor");
        TreeSet<String> fields = new TreeSet<>();
        for (Field f : c.getDeclaredFields()) {
            if (!Modifier.isPrivate(f.getModifiers())) fields.add(Modifier.toString(f.getModifiers()) + " " + f.getType() + " " + f.getName());
        }
        must(fields.equals(new TreeSet<>(List.of("public static final int NONE", "public static final int BAD",
            "public static final int STATE", "public static final int FULL", "public static final long NO"))), "constants " + fields);
    }

    static void classes() {
        TreeSet<String> open = new TreeSet<>();
        for (Method m : KnockPipes.class.getDeclaredMethods()) if (Modifier.isPublic(m.getModifiers())) open.add(m.getName());
        List<Class<?>> all = new ArrayList<>(List.of(KnockPipes.class.getDeclaredClasses()));
        must(all.size() <= 11, "some twelve classes");
        for (Class<?> c : all) {
            must(Modifier.isStatic(c.getModifiers()) && Modifier.isPrivate(c.getModifiers()), c + " private and static");
            must(c.getDeclaredClasses().length == 0, c + " holds no class");
        }
        all.add(KnockPipes.class);
        for (Class<?> c : all) {
            int own = 0;
            for (Field f : c.getDeclaredFields()) {
                if (!Modifier.isStatic(f.getModifiers())) own++;
                else must(Modifier.isFinal(f.getModifiers()), f + " is final");
                Class<?> type = f.getType();
                boolean may = !Modifier.isStatic(f.getModifiers()) || type == int.class || type == long.class
                    || type == boolean.class || type == char.class || type == String.class || type == int[].class
                    || type == long[].class || type == char[].class || type == byte[].class;
                must(may, f + " is of a type that may be static");
            }
            must(own <= 20, c + " has some twenty fields");
            for (Method m : c.getDeclaredMethods()) {
                must(m.getParameterCount() <= 7, m + " takes seven at most");
                must(!m.isSynthetic(), m + " is written out");
                must(m.getModifiers() == Modifier.PUBLIC || !open.contains(m.getName()), m + " bears a public name");
            }
        }
    }

    static void text(String source) {
        must(source.chars().allMatch(c -> c == '\n' || c >= 32 && c < 127), "plain signs alone");
        String code = source.replaceAll("(?s)/\\*.*?\\*/", " ").replaceAll("//[^\n]*", " ");
        String bare = code.replaceAll("\"[^\"]*\"", "\"\"").replaceAll("'[^']'", "' '");
        for (String word : List.of("throw", "throws", "try", "catch", "finally", "synchronized", "assert", "import",
            "package", "protected", "volatile", "instanceof", "var", "float", "double", "null", "yield", "native")) {
            must(!Pattern.compile("\\b" + word + "\\b").matcher(bare).find(), "no " + word);
        }
        for (String sign : List.of("->", "::", "@", "\" +", "+ \"")) must(!bare.contains(sign), "no " + sign);
        Matcher library = Pattern.compile("\\b([A-Z][a-z]\\w*)\\.(\\w+)\\(").matcher(bare);
        List<String> may = List.of("Math.min", "Math.max", "Math.abs", "Integer.bitCount", "Long.bitCount",
            "Integer.compare", "System.arraycopy");
        while (library.find()) {
            String call = library.group(1) + "." + library.group(2);
            must(may.contains(call) || code.contains("class " + library.group(1) + " "), call + " may be called");
        }
        // Java 17's compiler may read such a table ahead of the test of its index, and crash
        must(!Pattern.compile("\\b(\\w+) = [A-Z_]+\\[\\1\\]").matcher(bare).find(), "no table leads on into itself");
        // the language tells of arraycopy beside functions "over arrays of numbers", so rows of booleans are not copied
        Matcher copied = Pattern.compile("arraycopy\\((?:\\w+\\.)*(\\w+),").matcher(bare);
        while (copied.find()) {
            must(!bare.contains("boolean[] " + copied.group(1)), copied.group(1) + " is copied, so a row of numbers");
        }
        // compare promises no more than whether its answer is below, at or above 0
        must(!Pattern.compile("\\bcompare\\([^;]*\\)\\s*([-+*]|==|!=) *[1-9]").matcher(bare).find(), "no sums with compare");
        methodsAreShort(bare);
        loopsMakeNothing(bare);
        callsAreShallow(bare);
    }

    static final int DEEPEST = 8;

    /**
     * "calls that are no recursion go at most eight deep": the longest way from a public method down, on which no
     * method stands twice. Methods and calls are found by their text; a receiver's class by how it is declared.
     */
    static void callsAreShallow(String bare) {
        Map<String, String> classOf = new HashMap<>();
        Matcher declared = Pattern.compile("\\b([A-Z]\\w+) (\\w+)(?= =|,|\\))").matcher(bare);
        while (declared.find()) classOf.put(declared.group(2), declared.group(1));
        Map<String, StringBuilder> bodies = bodies(bare);
        must(bodies.size() > 100, "the methods are found, and not only " + bodies.size());
        Map<String, TreeSet<String>> calls = new HashMap<>();
        bodies.forEach((method, body) -> {
            String own = method.substring(0, method.indexOf('.'));
            TreeSet<String> to = new TreeSet<>();
            Matcher call = Pattern.compile("(?:(\\w+)\\.)?\\b(\\w+)\\(").matcher(body);
            while (call.find()) {
                String on = call.group(1) == null ? own : classOf.getOrDefault(call.group(1), call.group(1));
                for (String callee : List.of(on + "." + call.group(2), "KnockPipes." + call.group(2))) {
                    if (!bodies.containsKey(callee)) continue;
                    to.add(callee);
                    break;
                }
            }
            calls.put(method, to);
        });
        for (String method : bodies.keySet()) {
            List<String> way = longest(method, calls, new ArrayList<>());
            must(way.size() <= DEEPEST, "calls go " + DEEPEST + " deep at most, but " + way);
        }
    }

    static List<String> longest(String method, Map<String, TreeSet<String>> calls, List<String> way) {
        way.add(method);
        List<String> best = new ArrayList<>(way);
        for (String callee : calls.get(method)) {
            if (way.contains(callee)) continue;
            List<String> other = longest(callee, calls, way);
            if (other.size() > best.size()) best = other;
        }
        way.remove(way.size() - 1);
        return best;
    }

    /** Class.method, and what stands between its braces. */
    static Map<String, StringBuilder> bodies(String bare) {
        Map<String, StringBuilder> all = new HashMap<>();
        String type = "KnockPipes";
        StringBuilder body = null;
        for (String line : bare.split("\n")) {
            Matcher inner = Pattern.compile(" {4}private static final class (\\w+) \\{").matcher(line);
            Matcher head = Pattern.compile("( {4}| {8})(?:[\\w\\[\\]]+ )*(\\w+)\\([^()]*\\) \\{").matcher(line);
            if (inner.matches()) {
                type = inner.group(1);
            } else if (head.matches()) {
                body = new StringBuilder();
                all.put((head.group(1).length() == 4 ? "KnockPipes" : type) + "." + head.group(2), body);
            } else if (line.matches("( {4}| {8})\\}")) {
                body = null;
            } else if (body != null) {
                body.append(line).append('\n');
            }
        }
        return all;
    }

    /** A method's head stands four or eight blanks in, and its last line as far. */
    static void methodsAreShort(String bare) {
        String[] lines = bare.split("\n");
        int start = -1;
        for (int i = 0; i < lines.length; i++) {
            if (lines[i].matches("( {4}| {8})(public|private|static|final|int|long|boolean|void|[A-Z]).*\\) \\{")) start = i;
            if (start >= 0 && lines[i].matches("( {4}| {8})\\}")) {
                must(i - start < 60, "the method at line " + (start + 1) + " is short");
                start = -1;
            }
        }
    }

    /** Only fields make objects here, so no call does. */
    static void loopsMakeNothing(String bare) {
        for (String line : bare.split("\n")) {
            boolean makes = line.contains("new ") && !line.matches("( {4}| {8})(private |final )+.* = new .*;");
            must(!makes, "objects are made with an object: " + line.trim());
        }
    }

    /** Each promise has a test that names words of it. */
    static void everyPromiseIsTried() throws Exception {
        StringBuilder tests = new StringBuilder();
        try (var files = Files.list(Path.of("src/test/java"))) {
            for (Path file : files.toList()) tests.append(Files.readString(file, StandardCharsets.UTF_8));
        }
        for (int promise = 1; promise <= 32; promise++) {
            must(tests.indexOf("says(" + promise + ", \"") >= 0, "promise " + promise + " is tried");
        }
    }

    /** 512 calls of each kind make next to nothing: all rows are there from the start. */
    static void room() {
        com.sun.management.ThreadMXBean bean =
            (com.sun.management.ThreadMXBean) java.lang.management.ManagementFactory.getThreadMXBean();
        long before = 0;
        for (int round = 0; round < 3; round++) {
            KnockPipes x = new KnockPipes();
            before = bean.getCurrentThreadAllocatedBytes();
            for (int i = 0; i < 10; i++) x.noise(i % 7, i, i, 30);
            for (int i = 0; i < 12; i++) x.note(i % 10, 3 * i, i);
            for (int i = 0; i < 40; i++) {
                x.feed(0x61697220373B6169L, 8);
                x.house();
                x.day(i % 3, i * 12345L);
                for (int minute = -1; minute < 40; minute++) x.heard(i % 10, minute);
                x.which(i % 3);
                x.next();
                x.least(i % 10, i);
                x.eased(i % 10, i);
                x.older();
                x.moved(i % 10, i % 7);
                x.quiet(1);
                x.odds(i % 10, 1);
                x.act(i % 10, i % 3, i);
                x.image();
                x.undo();
            }
            before = bean.getCurrentThreadAllocatedBytes() - before;
        }
        must(before < 4096, "calls make no objects, but these took " + before + " bytes");
    }
}
