import java.util.concurrent.Callable;

/** What the tests share: counting what is wrong, and telling a market as bytes of the tape. */
public final class Check {
    private static int wrong = 0;

    private Check() {
    }

    static void same(String what, Object got, Object want) {
        if (!want.equals(got)) {
            wrong++;
            System.out.println(what + ": answered " + got + ", due is " + want);
        }
    }

    static void refused(String what, Class<?> want, Callable<?> call) {
        try {
            same(what, call.call(), want);
        } catch (Exception e) {
            same(what, e.getClass(), want);
        }
    }

    static void finish(String name) {
        System.out.println(wrong == 0 ? name + ": all as due" : name + ": " + wrong + " wrong");
        if (wrong != 0) {
            System.exit(1);
        }
    }

    /** Puts a text on the tape, filled up with zeros. */
    static void feed(ShadeLedger x, String text) {
        for (int i = 0; i < text.length(); i += 20) {
            int[] five = new int[5];
            for (int j = 0; j < 20; j++) {
                five[j / 4] = five[j / 4] << 8 | (i + j < text.length() ? text.charAt(i + j) & 255 : 0);
            }
            x.feed(five[0], five[1], five[2], five[3], five[4]);
        }
    }

    static int tell(ShadeLedger x, String text) {
        feed(x, text);
        return x.market(text.length());
    }

    static ShadeLedger of(String text) {
        ShadeLedger x = new ShadeLedger();
        int stalls = tell(x, text);
        if (stalls < 0) {
            same("fault in " + text, stalls, 0);
        }
        return x;
    }
}
