import java.lang.reflect.InvocationTargetException;
import java.lang.reflect.Method;
import java.util.Arrays;
import java.util.List;
import java.util.NoSuchElementException;

/** Promises 1 to 45: the least and greatest of every argument, what is refused beyond, and what that leaves as it was. */
public final class CallBoundaryTest {
    private static final Class<?> NO_STALL = NoSuchElementException.class;
    private static final Class<?> NO_ARGUMENT = IllegalArgumentException.class;
    private static final String MARKET = "field 4 3;stall 0 0 20;stall 1 0 9;stall 1 1 0;awning 1 1;grow 0 5 40;lantern 0;"
            + "sun 100 2 1 1;sun 500 0 2 3;rate 50 3;fold 900;dusk 300;cloud 4;";
    /** By promise: the call and its arguments: S, O a STALL and another one, * any number, or the least and the greatest. */
    private static final String[] CALLS = {
        "3 market 0:20", "5 told 0:7", "6 stall S 0:6", "7 length S 0:1439", "8 shades S O 0:1439", "9 under S 0:1439",
        "10 minutes S O", "11 chill S", "12 owes S O 0:1440", "13 net S 0:1440", "14 payments 0:1440", "16 first 0:1439",
        "17 winter 0:1", "18 move S 0:3 0:2", "19 tall S 0:60", "20 set 1:6 0:1", "22 pole 0:60 0:1", "23 wish S",
        "26 cold S -1:1440", "27 what 0:1", "28 days 1:99", "29 when 0:99999", "30 clouds * 0:1", "31 span * 1:60 0:1",
        "32 led S O", "33 whose S", "34 harmless S", "35 folded 0:99999", "36 awned S 0:1", "38 hour 0:1", "39 improved 0:1",
        "40 out S"};
    private static final String[] ALONE = {"4 fault", "15 due", "21 exchange", "24 play", "25 rounds", "37 lights", "41 suns",
        "42 image", "43 restore", "44 status *", "45 count *"};
    private static final List<String> CHANGES = List.of("market", "winter", "move", "tall", "cold", "days", "play", "image",
            "restore");
    private static final int[] NO_STALLS = {-1, 3, 7, 8, 9, 31, 32, Integer.MIN_VALUE, Integer.MAX_VALUE};

    private CallBoundaryTest() {
    }

    /** A market with something in all that a refusal must leave. */
    private static ShadeLedger lived() {
        ShadeLedger x = Check.of(MARKET);
        x.play();
        x.days(2);
        x.winter(1);
        x.cold(1, 7);
        x.image();
        x.tall(2, 33);
        Check.feed(x, "x");
        return x;
    }

    private static Method method(String name) {
        for (Method m : ShadeLedger.class.getMethods()) {
            if (m.getName().equals(name) && m.getDeclaringClass() == ShadeLedger.class) {
                return m;
            }
        }
        throw new AssertionError(name);
    }

    private static Object answer(ShadeLedger x, String name, int[] given) throws Exception {
        Object[] boxed = new Object[given.length];
        for (int i = 0; i < given.length; i++) {
            boxed[i] = given[i];
        }
        try {
            return method(name).invoke(x, boxed);
        } catch (InvocationTargetException e) {
            throw (Exception) e.getCause();
        }
    }

    private static void refused(String call, int[] given, Class<?> want) {
        ShadeLedger x = lived();
        String[] words = call.split(" ");
        Check.refusedBare(words[0] + ": " + words[1] + Arrays.toString(given), x, want, () -> answer(x, words[1], given));
    }

    private static void taken(String call, int[] given) {
        String[] words = call.split(" ");
        String what = words[0] + ": " + words[1] + Arrays.toString(given);
        ShadeLedger x = lived();
        String before = Check.state(x);
        try {
            answer(x, words[1], given);
        } catch (Exception e) {
            Check.same(what, e.getClass(), "taken");
        }
        Check.same(what + ": no refusal", x.status(0) + x.status(1), 0);
        if (!CHANGES.contains(words[1])) {
            Check.same(what + ": asked, nothing stays changed", Check.state(x), before);
        }
    }

    private static int[] with(int[] base, int at, int number) {
        int[] given = base.clone();
        given[at] = number;
        return given;
    }

    private static int least(String slot) {
        return slot.equals("S") || slot.equals("*") ? 0 : slot.equals("O") ? 1 : Integer.parseInt(slot.split(":")[0]);
    }

    private static void everyArgument(String call) {
        String[] slots = Arrays.copyOfRange(call.split(" "), 2, call.split(" ").length);
        int[] base = new int[slots.length];
        for (int i = 0; i < base.length; i++) {
            base[i] = least(slots[i]);
        }
        for (int i = 0; i < base.length; i++) {
            if (slots[i].equals("S") || slots[i].equals("O")) {
                ofStalls(call, base, i);
            } else if (slots[i].equals("*")) {
                for (int n : new int[] {Integer.MIN_VALUE, -1, 0, 1, Integer.MAX_VALUE}) {
                    taken(call, with(base, i, n));
                }
            } else {
                ofNumbers(call, slots[i], base, i);
            }
        }
    }

    private static void ofStalls(String call, int[] base, int at) {
        taken(call, with(base, at, least(call.split(" ")[2 + at])));
        taken(call, with(base, at, 2));
        for (int n : NO_STALLS) {
            refused(call, with(base, at, n), NO_STALL);
            int[] others = new int[base.length];
            Arrays.fill(others, Integer.MIN_VALUE);
            refused(call + " (ahead of others)", with(others, at, n), NO_STALL);
            if (call.contains("S O")) {
                int[] both = with(others, 1 - at, 0);
                refused(call + " (ahead of others)", with(both, at, n), NO_STALL);
            }
        }
        if (call.contains("S O")) {
            int[] one = base.clone();
            one[0] = 2;
            one[1] = 2;
            refused(call + " (one STALL)", one, NO_ARGUMENT);
        }
    }

    private static void ofNumbers(String call, String slot, int[] base, int at) {
        int least = Integer.parseInt(slot.split(":")[0]);
        int most = Integer.parseInt(slot.split(":")[1]);
        taken(call, with(base, at, least));
        taken(call, with(base, at, most));
        for (int n : new int[] {least - 1, most + 1, Integer.MIN_VALUE, Integer.MAX_VALUE}) {
            refused(call, with(base, at, n), NO_ARGUMENT);
        }
    }

    /** The calls without an argument, and those that take any number. */
    private static void neverRefused() {
        for (String call : ALONE) {
            String[] words = call.split(" ");
            if (words.length == 2) {
                taken(call, new int[0]);
            } else {
                everyArgument(call);
            }
        }
        ShadeLedger x = lived();
        for (int n : new int[] {-2, -1, 2, 3, Integer.MIN_VALUE, Integer.MAX_VALUE}) {
            Check.same("44: NONE for " + n, x.status(n), -1);
            Check.same("45: NONE for " + n, x.count(n), -1);
        }
    }

    private static void bitsOfStalls() {
        for (int bits : new int[] {0, 7, 8, 9, 16, 128, 256, 1 << 30, 1 << 31, -1, -8, 3 << 30, 1 << 31 | 1}) {
            ShadeLedger x = lived();
            Check.refusedBare("20: bits " + bits, x, NO_ARGUMENT, () -> x.set(bits, 0));
        }
        for (int bits = 1; bits < 7; bits++) {
            Check.same("20: one or two of three", lived().set(bits, 0) >= 0, true);
        }
        ShadeLedger none = new ShadeLedger();
        for (int bits : new int[] {0, 1, 3, -1}) {
            Check.refusedBare("20: there is no STALL: " + bits, none, NO_ARGUMENT, () -> none.set(bits, 1));
        }
        StringBuilder eight = new StringBuilder();
        for (int i = 0; i < 8; i++) {
            eight.append("stall ").append(i % 6).append(' ').append(i / 6).append(" 1;");
        }
        Check.same("20: the last two of eight", Check.of(eight.toString()).set(192, 0), 0);
        for (int bits : new int[] {224, 255, 256, 257, 384}) {
            ShadeLedger all = Check.of(eight.toString());
            Check.refusedBare("20: of eight " + bits, all, NO_ARGUMENT, () -> all.set(bits, 0));
        }
    }

    /** No MARKET with STALLS: every call that takes one refuses it. */
    private static void emptyMarket() {
        for (String call : CALLS) {
            String[] words = call.split(" ");
            int[] given = new int[words.length - 2];
            for (int i = 0; i < given.length; i++) {
                given[i] = least(words[2 + i]);
            }
            if (words.length > 2 && words[2].equals("S")) {
                ShadeLedger x = new ShadeLedger();
                Check.refusedBare("1: " + words[1] + " without STALLS", x, NO_STALL, () -> answer(x, words[1], given));
            }
        }
    }

    private static void refusalsAreCounted() {
        ShadeLedger x = lived();
        for (int i = 1; i <= 100; i++) {
            Check.refused("44: many", NO_STALL, () -> x.chill(3));
            Check.refused("44: many", NO_ARGUMENT, () -> x.hour(2));
            Check.refused("44: many", NO_ARGUMENT, () -> x.led(1, 1));
        }
        Check.same("44: counted by reason", x.status(0) * 1000 + x.status(1), 100200);
        x.restore();
        Check.same("44: no IMAGE keeps it", x.status(0) * 1000 + x.status(1), 100200);
        x.market(0);
        Check.same("44: nor does a MARKET", x.status(0) * 1000 + x.status(1), 100200);
        x.image();
        x.image();
        x.image();
        x.image();
        Check.tell(x, "x");
        x.pole(0, 0);
        Check.same("44: -1, NONE and a FAULT are no refusals", x.status(0) * 1000 + x.status(1), 100200);
    }

    private static void all() {
        for (String call : CALLS) {
            everyArgument(call);
        }
        neverRefused();
        bitsOfStalls();
        emptyMarket();
        refusalsAreCounted();
    }

    public static void main(String[] arguments) {
        Check.newAndUsed(CallBoundaryTest::all);
        Check.finish("CallBoundaryTest");
    }
}
