import java.io.File;
import java.lang.reflect.Method;
import java.lang.reflect.Modifier;
import java.net.URL;
import java.net.URLClassLoader;
import java.nio.charset.StandardCharsets;
import java.nio.file.Files;
import java.nio.file.Path;
import java.util.ArrayList;
import java.util.List;
import java.util.Set;
import java.util.TreeSet;
import java.util.regex.Matcher;
import java.util.regex.Pattern;
import javax.tools.ToolProvider;

/** README.md's Java is compiled and run: each call that it shows with an answer must answer so. */
public final class ReadmeTest {
    private static final Path README = Path.of("README.md");
    private static final Path TESTS = Path.of("src/test/java");
    private static final int MOST_CALLS = 512;
    private static final Pattern SHOWN =
        Pattern.compile("^x\\.(\\w+)\\((.*)\\); +// (-?\\d+|true|false|throws \\w+)(:.*)?$");

    private static int wrong = 0;
    private static int shown = 0;
    private static final Set<String> NAMES = new TreeSet<>();

    private static void must(boolean holds, String what) {
        if (!holds) {
            wrong++;
            System.out.println("not so: " + what);
        }
    }

    /** What the page's Java calls for each call with an answer. */
    public static void due(int line, Object got, String want) {
        shown++;
        must(String.valueOf(got).equals(want), "README.md, line " + line + ": the answer is " + got + ", not " + want);
    }

    private static String calling(int line, Matcher call) {
        String want = call.group(3);
        String code = "x." + call.group(1) + "(" + call.group(2) + ")";
        NAMES.add(call.group(1));
        if (!want.startsWith("throws ")) {
            return "ReadmeTest.due(" + line + ", " + code + ", \"" + want + "\");";
        }
        return "try { ReadmeTest.due(" + line + ", " + code + ", \"" + want + "\"); } catch (RuntimeException e) { "
            + "ReadmeTest.due(" + line + ", \"throws \" + e.getClass().getSimpleName(), \"" + want + "\"); }";
    }

    /** Blocks that begin with static are methods; all others are one run of calls. */
    private static String program(List<String> page) {
        StringBuilder methods = new StringBuilder();
        StringBuilder run = new StringBuilder();
        StringBuilder into = null;
        for (int i = 0; i < page.size(); i++) {
            String line = page.get(i);
            if (line.startsWith("```")) {
                boolean isJava = into == null && line.equals("```java") && i + 1 < page.size();
                into = !isJava ? null : page.get(i + 1).startsWith("static ") ? methods : run;
            } else if (into != null) {
                Matcher call = SHOWN.matcher(line);
                must(into != run || call.matches() || !line.startsWith("x."), "an answer stands in line " + (i + 1));
                into.append(call.matches() ? calling(i + 1, call) : line).append('\n');
            }
        }
        return "public final class Shown {\n" + methods + "public static void run() {\n" + run + "}\n}\n";
    }

    private static void play(String program) throws Exception {
        Path place = Files.createTempDirectory("readme");
        Path source = place.resolve("Shown.java");
        Files.writeString(source, program);
        int failed = ToolProvider.getSystemJavaCompiler().run(null, System.out, System.out, "-cp",
            System.getProperty("java.class.path"), "-d", place.toString(), source.toString());
        must(failed == 0, "README.md's Java compiles");
        if (failed == 0) {
            try (URLClassLoader loader = new URLClassLoader(new URL[] {place.toUri().toURL()})) {
                loader.loadClass("Shown").getMethod("run").invoke(null);
            }
        }
        for (File file : place.toFile().listFiles()) {
            file.delete();
        }
        place.toFile().delete();
    }

    private static void nothingIsMissing(String page) {
        for (Method m : CatCourt.class.getDeclaredMethods()) {
            must(!Modifier.isPublic(m.getModifiers()) || NAMES.contains(m.getName()), m.getName() + " is shown");
        }
        for (String file : TESTS.toFile().list()) {
            String name = file.replace(".java", "");
            must(page.contains("`" + name + "`"), "README.md tells of " + name);
        }
    }

    public static void main(String[] args) throws Exception {
        List<String> page = new ArrayList<>(Files.readAllLines(README, StandardCharsets.UTF_8));
        play(program(page));
        nothingIsMissing(String.join("\n", page));
        must(shown >= NAMES.size() && shown <= MOST_CALLS, "answers were shown: " + shown);
        System.out.println(wrong == 0 ? "README.md is so (" + shown + " answers)" : wrong + " things are not so");
        if (wrong != 0) {
            System.exit(1);
        }
    }
}
