import java.lang.reflect.Constructor;
import java.lang.reflect.Field;
import java.lang.reflect.Method;
import java.lang.reflect.Modifier;
import java.nio.file.Files;
import java.nio.file.Path;
import java.util.ArrayList;
import java.util.List;
import java.util.NoSuchElementException;
import java.util.TreeSet;

/** The public face as the document tells it, what the rules of the language forbid, and every call at its edges. */
public final class FaceTest {
    private static final String[] FACE = {
        "int feed 5", "int market 1 A", "int fault 0", "int told 1 A", "int stall 2 NA", "int length 2 NA",
        "boolean shades 3 NA", "int under 2 NA", "int minutes 2 NA", "int chill 1 N", "int owes 3 NA", "int net 2 NA",
        "int payments 1 A", "int due 0", "int first 1 A", "int winter 1 A", "int move 3 NA", "int tall 2 NA",
        "int set 2 A", "int exchange 0", "int pole 2 A", "int wish 1 N", "int play 0", "int rounds 0", "int cold 2 NA",
        "int what 1 A", "int days 1 A", "int when 1 A", "int clouds 2 A", "int span 3 A", "int led 2 NA",
        "int whose 1 N", "int harmless 1 N", "int folded 1 A", "int awned 2 NA", "int lights 0", "int hour 1 A",
        "int improved 1 A", "int out 1 N", "int suns 0", "int image 0", "int restore 0", "int status 1", "int count 1"};
    private static final int[] EDGES = {Integer.MIN_VALUE, -2, -1, 0, 1, 2, 3, 7, 8, 9, 60, 61, 99, 100, 600, 1439, 1440,
        1441, 99999, 100000, Integer.MAX_VALUE};
    private static final String[] MARKETS = {
        "", "field 2 2;stall 0 0 40;stall 0 1 1;stall 1 0 1;stall 1 1 1;sun 0 2 2 9;sun 1439 1 2 9;cloud 4;",
        "field 9 9;stall 0 0 40;stall 8 8 40;stall 4 4 40;stall 0 8 40;stall 8 0 0;stall 4 0 1;stall 0 4 2;"
            + "stall 4 8 3;awning 2 3;grow 7 5 60;lantern 0;dusk 0;sun 0 2 2 9;sun 700 0 0 9;rate 0 9;cloud 8;"};

    private FaceTest() {
    }

    private static void face() {
        TreeSet<String> got = new TreeSet<>();
        for (Method m : ShadeLedger.class.getDeclaredMethods()) {
            if (!Modifier.isPrivate(m.getModifiers()) && !m.isSynthetic()) {
                got.add(told(m));
                Check.same(m.getName() + " is public alone", m.getModifiers(), Modifier.PUBLIC);
            }
        }
        Check.same("face", got, new TreeSet<>(List.of(FACE)));
        Check.same("class", ShadeLedger.class.getModifiers(), Modifier.PUBLIC | Modifier.FINAL);
        for (Field f : ShadeLedger.class.getDeclaredFields()) {
            Check.same(f.getName() + " is hidden", Modifier.isPrivate(f.getModifiers()), !f.getName().equals("NONE"));
        }
        Constructor<?>[] constructors = ShadeLedger.class.getDeclaredConstructors();
        Check.same("constructors", constructors.length, 1);
        Check.same("the constructor", constructors[0].getParameterCount(), 0);
        Check.same("at most some twelve classes", ShadeLedger.class.getDeclaredClasses().length <= 11, true);
    }

    private static String told(Method m) {
        StringBuilder throwsWhat = new StringBuilder();
        for (Class<?> e : m.getExceptionTypes()) {
            throwsWhat.append(e == NoSuchElementException.class ? "N" : e == IllegalArgumentException.class ? "A" : "?");
        }
        return (m.getReturnType().getName() + " " + m.getName() + " " + m.getParameterCount() + " " + throwsWhat).trim();
    }

    private static void privateNames() {
        TreeSet<String> names = new TreeSet<>();
        for (String line : FACE) {
            names.add(line.split(" ")[1]);
        }
        List<Class<?>> all = new ArrayList<>(List.of(ShadeLedger.class.getDeclaredClasses()));
        all.add(ShadeLedger.class);
        for (Class<?> c : all) {
            for (Method m : c.getDeclaredMethods()) {
                if (Modifier.isPrivate(m.getModifiers())) {
                    Check.same("private " + m.getName(), names.contains(m.getName()), false);
                }
                Check.same("at most seven parameters: " + m.getName(), m.getParameterCount() <= 7, true);
            }
        }
    }

    private static void source() throws Exception {
        String source = Files.readString(Path.of("src/main/java/ShadeLedger.java"));
        String code = source.replaceAll("(?s)/\\*.*?\\*/", "").replaceAll("//.*", "").replaceAll("\"[^\"]*\"", "\"\"");
        for (String word : new String[] {"try", "catch", "finally", "synchronized", "assert", "package", "float",
            "double", "System\\.(?!arraycopy)\\w+", "\\w+Exact", "->", "::", "static \\{", "Random", "Thread", "import static",
            "hashCode", "toString", "protected", "instanceof"}) {
            Check.same("the source holds " + word, code.matches("(?s).*(?<!\\w)" + word + "(?!\\w).*"), false);
        }
        Check.same("one import", code.split("import ").length, 2);
    }

    private static void edges() throws Exception {
        for (String text : MARKETS) {
            for (Method m : ShadeLedger.class.getDeclaredMethods()) {
                if (Modifier.isPublic(m.getModifiers()) && m.getParameterCount() <= 3) {
                    edgesOf(text, m);
                }
            }
        }
    }

    private static void edgesOf(String text, Method m) throws Exception {
        ShadeLedger x = null;
        int many = m.getParameterCount();
        int ways = 1;
        for (int i = 0; i < many; i++) {
            ways *= EDGES.length;
        }
        int stalls = 0;
        int arguments = 0;
        for (int way = 0; way < ways; way++) {
            // Nothing is promised about an object behind its 512th call.
            if (way % 400 == 0) {
                refusalsOf(x, m, stalls, arguments);
                x = Check.of(text);
                stalls = 0;
                arguments = 0;
            }
            Object[] given = new Object[many];
            for (int i = 0, rest = way; i < many; i++, rest /= EDGES.length) {
                given[i] = EDGES[rest % EDGES.length];
            }
            try {
                m.invoke(x, given);
            } catch (java.lang.reflect.InvocationTargetException e) {
                stalls += e.getCause().getClass() == NoSuchElementException.class ? 1 : 0;
                arguments += e.getCause().getClass() == IllegalArgumentException.class ? 1 : 0;
                boolean declared = List.of(m.getExceptionTypes()).contains(e.getCause().getClass());
                Check.same(m.getName() + List.of(given) + " throws " + e.getCause(), declared, true);
            }
        }
        refusalsOf(x, m, stalls, arguments);
    }

    private static void refusalsOf(ShadeLedger x, Method m, int stalls, int arguments) {
        if (x != null) {
            Check.same("44: refused by STALL of " + m.getName(), x.status(0), stalls);
            Check.same("44: refused by argument of " + m.getName(), x.status(1), arguments);
        }
    }

    public static void main(String[] arguments) throws Exception {
        face();
        privateNames();
        source();
        edges();
        Check.finish("FaceTest");
    }
}
