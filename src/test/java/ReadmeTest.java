import java.io.File;
import java.lang.reflect.Method;
import java.lang.reflect.Modifier;
import java.nio.file.Files;
import java.nio.file.Path;

/** README.md says how to use the class and how to run its tests, and its example answers what it says. */
public final class ReadmeTest {
    private static final String[] CLAUSES = {"field W H", "stall X Y T", "awning K N", "grow K N L", "sun M I J N",
        "rate M R", "fold M", "lantern K", "dusk M", "cloud C"};
    private static final String[] EXAMPLE = {
        "ShadeLedger x = new ShadeLedger();",
        "x.feed(0x7374616c, 0x6c203020, 0x30203130, 0x3b737461, 0x6c6c2031);",
        "x.feed(0x20302030, 0x3b73756e, 0x20302032, 0x20312031, 0x3b000000);",
        "int stalls = x.market(37);   // 2;", "int due = x.due();           // 1440:",
        "boolean is = x.shades(0, 1, 600); // true"};

    private ReadmeTest() {
    }

    private static void says(String page, String what) {
        Check.same("README.md says " + what, page.contains(what), true);
    }

    private static void names(String page) {
        for (Method m : ShadeLedger.class.getDeclaredMethods()) {
            if (Modifier.isPublic(m.getModifiers())) {
                says(page, "`" + m.getName() + "(");
            }
        }
        for (String clause : CLAUSES) {
            says(page, "`" + clause + "`");
        }
        String[] files = new File("src/test/java").list();
        Check.same("tests are there", files != null, true);
        for (String file : files == null ? new String[0] : files) {
            if (file.endsWith("Test.java")) {
                says(page, "`" + file.replace(".java", "") + "`");
            }
        }
        says(page, "`.ci/run`");
        says(page, "../shared/tests");
    }

    private static void example(String page) {
        for (String line : EXAMPLE) {
            says(page, line);
        }
        ShadeLedger x = new ShadeLedger();
        Check.same("example: feed", x.feed(0x7374616c, 0x6c203020, 0x30203130, 0x3b737461, 0x6c6c2031), 20);
        Check.same("example: feed again", x.feed(0x20302030, 0x3b73756e, 0x20302032, 0x20312031, 0x3b000000), 40);
        Check.same("example: market", x.market(37), 2);
        Check.same("example: fault", x.fault(), ShadeLedger.NONE);
        Check.same("example: due", x.due(), 1440);
        Check.same("example: shades", x.shades(0, 1, 600), true);
    }

    public static void main(String[] arguments) throws Exception {
        String page = Files.readString(Path.of("README.md"));
        names(page);
        example(page);
        Check.finish("ReadmeTest");
    }
}
