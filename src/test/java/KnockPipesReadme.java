import java.lang.reflect.Method;
import java.lang.reflect.Modifier;
import java.nio.charset.StandardCharsets;
import java.nio.file.Files;
import java.nio.file.Path;
import java.util.TreeSet;
import java.util.regex.Matcher;
import java.util.regex.Pattern;

/** The calls in README.md, made one behind the other: each answers what stands behind it, and no call is left out. */
public final class KnockPipesReadme {
    static final Pattern CALL = Pattern.compile("x\\.(\\w+)\\(([^()]*)\\);\\s*// (-?\\d+)\\b.*");
    static int wrong = 0;

    public static void main(String[] args) throws Exception {
        String readme = Files.readString(Path.of("README.md"), StandardCharsets.UTF_8);
        TreeSet<String> left = new TreeSet<>();
        for (Method m : KnockPipes.class.getDeclaredMethods()) if (Modifier.isPublic(m.getModifiers())) left.add(m.getName());
        KnockPipes x = null;
        int calls = 0;
        Matcher blocks = Pattern.compile("(?s)```java\n(.*?)```").matcher(readme);
        while (blocks.find()) {
            for (String line : blocks.group(1).split("\n")) {
                Matcher call = CALL.matcher(line);
                if (line.equals("KnockPipes x = new KnockPipes();")) {
                    x = new KnockPipes();
                } else if (x != null && call.matches()) {
                    calls++;
                    left.remove(call.group(1));
                    must(answer(x, call.group(1), call.group(2)) == Long.parseLong(call.group(3)), line);
                } else {
                    must(line.isBlank(), "can't be run: " + line);
                }
            }
        }
        must(calls > 0, "there are calls");
        must(left.isEmpty(), "calls left out: " + left);
        must(readme.contains("`.ci/run`"), "how the tests are run");
        try (var tests = Files.list(Path.of("src/test/java"))) {
            for (Path test : tests.toList()) {
                String name = test.getFileName().toString().replaceAll("EdgesOf\\w+", "EdgesOf*");
                must(readme.contains("src/test/java/" + name), "what " + name + " tests");
            }
        }
        System.out.println(wrong == 0 ? "README.md: " + calls + " calls answer as it says" : wrong + " lines of README.md are wrong");
        if (wrong != 0) System.exit(1);
    }

    static void must(boolean is, String what) {
        if (is) return;
        wrong++;
        System.out.println("README.md: " + what);
    }

    static long answer(KnockPipes x, String name, String numbers) throws Exception {
        String[] parts = numbers.isBlank() ? new String[0] : numbers.split(", *");
        for (Method m : KnockPipes.class.getDeclaredMethods()) {
            if (!m.getName().equals(name) || m.getParameterCount() != parts.length) continue;
            Object[] given = new Object[parts.length];
            for (int i = 0; i < parts.length; i++) {
                Class<?> type = m.getParameterTypes()[i];
                given[i] = type == boolean.class ? (Object) Boolean.valueOf(parts[i])
                    : type == int.class ? (Object) (int) number(parts[i]) : (Object) number(parts[i]);
            }
            return ((Number) m.invoke(x, given)).longValue();
        }
        must(false, "there is no call " + name + " of " + parts.length);
        return 0;
    }

    /** A number as Java writes it, or one shifted by another. */
    static long number(String text) {
        String[] shifted = text.split(" << ");
        if (shifted.length == 2) return number(shifted[0]) << number(shifted[1]);
        String plain = text.replace("_", "").replaceAll("L$", "");
        if (plain.startsWith("0x")) return Long.parseUnsignedLong(plain.substring(2), 16);
        if (plain.startsWith("0b")) return Long.parseUnsignedLong(plain.substring(2), 2);
        return Long.parseLong(plain);
    }
}
