import java.lang.reflect.Field;
import java.lang.reflect.Modifier;
import java.nio.file.Files;
import java.nio.file.Path;
import java.util.ArrayList;
import java.util.List;
import java.util.Map;
import java.util.TreeMap;
import java.util.TreeSet;
import java.util.regex.Matcher;
import java.util.regex.Pattern;

/** The rules of LANGUAGE.md that can be read off the source or off the compiled class. */
public final class LanguageTest {
    private static final Pattern METHOD = Pattern.compile(
        "\\n {4,8}(?:public|private) (?:static )?(?:\\w+(?:\\[\\])* )?(\\w+)\\(([^)]*)\\)[^{};=]*\\{");
    private static final Pattern CALL = Pattern.compile("(?<![\\w])(?<!new )(\\w+)\\(");
    private static final Pattern LIBRARY = Pattern.compile("(?<![\\w.])([A-Z][a-z]\\w*)\\.(\\w+)\\(");
    private static final List<String> ALLOWED = List.of("Math.min", "Math.max", "Math.abs", "Integer.bitCount",
        "System.arraycopy");

    private LanguageTest() {
    }

    private static String code() throws Exception {
        String source = Files.readString(Path.of("src/main/java/ShadeLedger.java"));
        String bare = source.replaceAll("(?s)/\\*.*?\\*/", "").replaceAll("//.*", "").replaceAll("\"[^\"]*\"", "\"\"");
        // A text's length is the library's, not the face's.
        return bare.replace("name.length()", "5");
    }

    /** Bodies by names; those of one name are taken together, by which no chain of calls gets shorter. */
    private static Map<String, List<String>> bodies(String code) {
        Map<String, List<String>> all = new TreeMap<>();
        Matcher m = METHOD.matcher(code);
        while (m.find()) {
            int depth = 1;
            int end = m.end();
            while (end < code.length() && depth > 0) {
                depth += code.charAt(end) == '{' ? 1 : code.charAt(end) == '}' ? -1 : 0;
                end++;
            }
            all.computeIfAbsent(m.group(1), name -> new ArrayList<>()).add(code.substring(m.end(), end));
        }
        return all;
    }

    private static void faceAndClasses() {
        List<Class<?>> all = new ArrayList<>(List.of(ShadeLedger.class.getDeclaredClasses()));
        for (Class<?> c : all) {
            Check.same("rule 1: private and static: " + c, c.getModifiers() & (Modifier.PRIVATE | Modifier.STATIC),
                Modifier.PRIVATE | Modifier.STATIC);
        }
        all.add(ShadeLedger.class);
        Check.same("rule 11: at most twelve classes", all.size() <= 12, true);
        for (Class<?> c : all) {
            int own = 0;
            for (Field f : c.getDeclaredFields()) {
                if (Modifier.isStatic(f.getModifiers())) {
                    Check.same("rule 5: a constant int: " + f, Modifier.isFinal(f.getModifiers()) && f.getType() == int.class,
                        true);
                } else {
                    own++;
                }
            }
            Check.same("rule 11: at most twenty fields: " + c, own <= 20, true);
        }
    }

    private static void library(String code) {
        Matcher m = LIBRARY.matcher(code);
        while (m.find()) {
            String name = m.group(1) + "." + m.group(2);
            Check.same("rule 4: " + name, ALLOWED.contains(name), true);
        }
    }

    private static void made(Map<String, List<String>> bodies) {
        for (Map.Entry<String, List<String>> e : bodies.entrySet()) {
            for (String body : e.getValue()) {
                String rest = body.replaceAll("throw new (NoSuchElement|IllegalArgument)Exception\\(\"\"\\);", "");
                Check.same("rules 6, 12: makes nothing, throws what the document names: " + e.getKey(),
                    rest.matches("(?s).*\\b(new|throw|clone|copyOf)\\b.*"), false);
                Check.same("rule 11: short: " + e.getKey(), body.split("\n").length <= 60, true);
            }
        }
    }

    /** The one divisor that is no number written out is looked at ahead of the division. */
    private static void divisors(String code) {
        TreeSet<String> names = new TreeSet<>();
        Matcher m = Pattern.compile("[/%]=? *([^ ),\\];]+)").matcher(code);
        while (m.find()) {
            if (!m.group(1).matches("[1-9][0-9]*")) {
                names.add(m.group(1));
            }
        }
        Check.same("rule 7: divisors", names, new TreeSet<>(List.of("tenths")));
        Check.same("rule 7: the divisor is tested", code.contains("tenths <= 0"), true);
    }

    private static void loops(String code) {
        Matcher m = Pattern.compile("while \\(([^<]*<?)").matcher(code);
        while (m.find()) {
            Check.same("rule 9: a counter against a bound: " + m.group(1), m.group(1), "at <");
        }
        m = Pattern.compile("for \\(([^;]*);([^;]*);([^{]*)\\) \\{").matcher(code);
        while (m.find()) {
            Check.same("rule 9: a bound in " + m.group(), m.group(2).matches(".*(<|>).*"), true);
            Check.same("rule 9: a step in " + m.group(), m.group(3).trim().matches("\\w+(\\+\\+|--| -= 8)"), true);
        }
    }

    private static int depth(String name, Map<String, List<String>> bodies, List<String> open, Map<String, Integer> known) {
        if (open.contains(name)) {
            Check.same("rule 8: recursion", open + " " + name, "none");
            return 0;
        }
        Integer before = known.get(name);
        if (before != null) {
            return before;
        }
        open.add(name);
        int most = 0;
        for (String body : bodies.get(name)) {
            Matcher m = CALL.matcher(body);
            while (m.find()) {
                if (bodies.containsKey(m.group(1))) {
                    most = Math.max(most, depth(m.group(1), bodies, open, known));
                }
            }
        }
        open.remove(name);
        known.put(name, most + 1);
        return most + 1;
    }

    private static void depths(Map<String, List<String>> bodies) {
        Map<String, Integer> known = new TreeMap<>();
        for (String name : bodies.keySet()) {
            Check.same("rule 11: calls at most eight deep: " + name,
                depth(name, bodies, new ArrayList<>(), known) <= 8, true);
        }
        Check.same("the deepest chains are found", known.get("what"), 8);
    }

    public static void main(String[] arguments) throws Exception {
        String code = code();
        Map<String, List<String>> bodies = bodies(code);
        faceAndClasses();
        library(code);
        made(bodies);
        divisors(code);
        loops(code);
        depths(bodies);
        Check.finish("LanguageTest");
    }
}
