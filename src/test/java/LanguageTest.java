import java.io.ByteArrayOutputStream;
import java.io.File;
import java.io.PrintStream;
import java.util.ArrayList;
import java.util.List;
import java.util.Map;
import java.util.Set;
import java.util.TreeMap;
import java.util.TreeSet;
import java.util.regex.Matcher;
import java.util.regex.Pattern;
import java.util.spi.ToolProvider;

/** What javap tells of LANGUAGE.md: the library, exceptions, and how deep calls go. */
public final class LanguageTest {
    private static final Set<String> LIBRARY = Set.of("java/lang/Integer.bitCount", "java/lang/Math.abs",
        "java/lang/Math.max", "java/lang/Math.min", "java/lang/Object.<init>", "java/lang/System.arraycopy",
        "java/util/NoSuchElementException.<init>");
    private static final int DEEPEST = 8;
    private static final Pattern CLASS = Pattern.compile("^[a-z ]*class (\\S+) .*\\{$|^[a-z ]*class (\\S+) \\{$");
    private static final Pattern METHOD = Pattern.compile("^  \\S.*?([\\w$.]+)\\(.*\\).*;$");
    private static final Pattern CALL = Pattern.compile("invoke\\w+ +#\\d+.*// (?:Interface)?Method (\\S+?):");

    private static final Map<String, Set<String>> CALLS = new TreeMap<>();
    private static int wrong = 0;

    private static void must(boolean holds, String what) {
        if (!holds) {
            wrong++;
            System.out.println("not so: " + what);
        }
    }

    private static String javap() throws Exception {
        File place = new File(CatCourt.class.getProtectionDomain().getCodeSource().getLocation().toURI());
        List<String> args = new ArrayList<>(List.of("-c", "-p"));
        for (String name : place.list()) {
            if (name.equals("CatCourt.class") || name.startsWith("CatCourt$")) {
                args.add(new File(place, name).getPath());
            }
        }
        ByteArrayOutputStream out = new ByteArrayOutputStream();
        ToolProvider.findFirst("javap").orElseThrow()
            .run(new PrintStream(out), System.err, args.toArray(new String[0]));
        return out.toString();
    }

    private static void read(String text) {
        String in = "";
        String method = "";
        for (String line : text.split("\n")) {
            Matcher c = CLASS.matcher(line);
            Matcher m = METHOD.matcher(line);
            Matcher call = CALL.matcher(line);
            if (c.matches()) {
                in = c.group(1) == null ? c.group(2) : c.group(1);
            } else if (m.matches()) {
                method = in + "." + (m.group(1).equals(in) ? "<init>" : m.group(1));
                CALLS.computeIfAbsent(method, k -> new TreeSet<>());
            } else if (call.find()) {
                String to = call.group(1).replace("\"", "");
                to = to.contains(".") ? to : in + "." + to;
                must(to.startsWith("CatCourt") || LIBRARY.contains(to), method + " calls what is listed, not " + to);
                CALLS.get(method).add(to);
            }
            must(!line.contains("invokedynamic"), method + " joins no texts by + and has no lambda");
            must(!line.contains("athrow") || method.equals("CatCourt.cat"), method + " throws nothing");
            must(!line.contains("Exception table"), method + " catches nothing");
        }
    }

    private static Set<String> reached(String from) {
        Set<String> all = new TreeSet<>();
        List<String> next = new ArrayList<>(List.of(from));
        while (!next.isEmpty()) {
            for (String to : CALLS.getOrDefault(next.remove(next.size() - 1), Set.of())) {
                if (all.add(to)) {
                    next.add(to);
                }
            }
        }
        return all;
    }

    /** Methods that call one another count as one. */
    private static int depth(String from, Map<String, Set<String>> reach, Map<String, Integer> known) {
        if (known.containsKey(from)) {
            return known.get(from);
        }
        Set<String> together = new TreeSet<>(Set.of(from));
        for (String to : reach.get(from)) {
            if (reach.getOrDefault(to, Set.of()).contains(from)) {
                together.add(to);
            }
        }
        int deepest = 0;
        for (String one : together) {
            for (String to : CALLS.getOrDefault(one, Set.of())) {
                if (!together.contains(to)) {
                    deepest = Math.max(deepest, CALLS.containsKey(to) ? depth(to, reach, known) : 1);
                }
            }
        }
        known.put(from, deepest + 1);
        return deepest + 1;
    }

    public static void main(String[] args) throws Exception {
        read(javap());
        must(CALLS.size() > 100, "javap tells of all methods, not of " + CALLS.size());
        Map<String, Set<String>> reach = new TreeMap<>();
        for (String method : CALLS.keySet()) {
            reach.put(method, reached(method));
        }
        Map<String, Integer> known = new TreeMap<>();
        for (String method : CALLS.keySet()) {
            int depth = depth(method, reach, known);
            must(depth <= DEEPEST, "calls from " + method + " go " + DEEPEST + " deep at most, not " + depth);
            boolean isRecursive = reach.get(method).contains(method);
            must(!isRecursive || method.startsWith("CatCourt$LawText."), method + " does not call itself");
        }
        System.out.println(wrong == 0 ? "the language is kept to" : wrong + " things are not so");
        if (wrong != 0) {
            System.exit(1);
        }
    }
}
