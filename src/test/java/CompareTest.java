import java.lang.reflect.InvocationTargetException;
import java.lang.reflect.Method;
import java.util.ArrayList;
import java.util.Arrays;
import java.util.List;
import java.util.Random;

/** Drawn markets and calls: ShadeLedger and the oracle must answer, and refuse, alike. */
public final class CompareTest {
    private final Random random;
    private final ShadeLedger ledger = new ShadeLedger();
    private final Oracle oracle = new Oracle();
    private final List<String> story = new ArrayList<>();
    private static final Method[] CALLS = sortedCalls();
    private int width = 6;
    private int depth = 4;
    private int stalls = 0;

    private CompareTest(long seed) {
        random = new Random(seed);
    }

    private static Method[] sortedCalls() {
        List<Method> all = new ArrayList<>();
        for (Method m : ShadeLedger.class.getDeclaredMethods()) {
            if (java.lang.reflect.Modifier.isPublic(m.getModifiers())) {
                all.add(m);
            }
        }
        all.sort((a, b) -> a.getName().compareTo(b.getName()));
        return all.toArray(new Method[0]);
    }

    private int draw(int below) {
        return random.nextInt(below);
    }

    private String marketText() {
        StringBuilder text = new StringBuilder();
        width = 6;
        depth = 4;
        if (draw(4) > 0) {
            width = 2 + draw(draw(4) == 0 ? 8 : 4);
            depth = 2 + draw(draw(4) == 0 ? 8 : 4);
            text.append("field ").append(width).append(' ').append(depth).append(';');
        }
        boolean[][] taken = new boolean[9][9];
        stalls = 0;
        int want = 1 + draw(8);
        int clauses = want + draw(22);
        for (int i = 0; i < clauses; i++) {
            text.append(stalls < want && (i < 2 || draw(2) == 0) ? stallClause(taken) : otherClause());
            text.append(draw(10) == 0 ? " ; " : ";");
        }
        String all = text.toString();
        if (all.length() > 600) {
            all = all.substring(0, all.lastIndexOf(';', 599) + 1);
        }
        return draw(8) == 0 ? spoilt(all) : all;
    }

    private String stallClause(boolean[][] taken) {
        int x = draw(width);
        int y = draw(depth);
        for (int i = 0; i < 30 && taken[x][y]; i++) {
            x = draw(width);
            y = draw(depth);
        }
        if (taken[x][y]) {
            return otherClause();
        }
        taken[x][y] = true;
        stalls++;
        return "stall " + x + " " + y + " " + draw(41);
    }

    private String otherClause() {
        int k = stalls == 0 ? 0 : draw(stalls);
        int kind = draw(12);
        if (stalls == 0 && (kind == 0 || kind == 1 || kind == 4)) {
            kind = 2;
        }
        switch (kind) {
            case 0:
                return "awning " + k + " " + draw(4);
            case 1:
                return "grow " + k + " " + draw(6) + " " + draw(61);
            case 2:
            case 3:
            case 10:
            case 11:
                return "sun " + draw(draw(2) == 0 ? 1440 : 400) + " " + draw(3) + " " + draw(3) + " " + draw(10);
            case 4:
                return "lantern " + k;
            case 5:
                return "dusk " + draw(1441);
            case 6:
                return "cloud " + draw(9);
            case 7:
                return draw(3) == 0 ? "fold " + draw(1441) : "sun0 2 1 3";
            default:
                return "rate " + draw(1440) + " " + draw(10);
        }
    }

    private String spoilt(String text) {
        StringBuilder other = new StringBuilder(text);
        for (int i = draw(3); i >= 0 && other.length() > 1; i--) {
            int at = draw(other.length());
            switch (draw(4)) {
                case 0:
                    other.deleteCharAt(at);
                    break;
                case 1:
                    other.setCharAt(at, "0123456789; afx".charAt(draw(15)));
                    break;
                case 2:
                    other.insert(at, "9; a".charAt(draw(4)));
                    break;
                default:
                    other.insert(other.lastIndexOf(";", at) + 1, "field 3 3;");
                    break;
            }
        }
        return other.length() > 600 ? other.substring(0, 600) : other.toString();
    }

    private void tell(String text) {
        StringBuilder padded = new StringBuilder(text);
        while (padded.length() % 20 != 0) {
            padded.append((char) 0);
        }
        for (int i = 0; i < padded.length(); i += 20) {
            int[] five = new int[5];
            for (int j = 0; j < 20; j++) {
                five[j / 4] = five[j / 4] << 8 | padded.charAt(i + j);
            }
            call("feed", five[0], five[1], five[2], five[3], five[4]);
        }
        story.add("text: " + text);
        call("market", text.length());
        call("fault");
        lookAgain();
    }

    private void call(String name, int... arguments) {
        for (Method m : CALLS) {
            if (m.getName().equals(name)) {
                compare(m, arguments);
            }
        }
    }

    private void compare(Method method, int[] arguments) {
        Object[] boxed = new Object[arguments.length];
        for (int i = 0; i < boxed.length; i++) {
            boxed[i] = arguments[i];
        }
        String line = method.getName() + Arrays.toString(arguments);
        String got = answer(ledger, method, boxed);
        story.add(line + " -> " + got);
        String want;
        try {
            want = answer(oracle, Oracle.class.getMethod(method.getName(), method.getParameterTypes()), boxed);
        } catch (NoSuchMethodException e) {
            throw new AssertionError(e);
        }
        if (!got.equals(want)) {
            throw new AssertionError(String.join("\n", story) + "\ndue is " + want);
        }
    }

    private static String answer(Object on, Method method, Object[] arguments) {
        try {
            return String.valueOf(method.invoke(on, arguments));
        } catch (InvocationTargetException e) {
            return "throws " + e.getCause().getClass().getName();
        } catch (IllegalAccessException e) {
            throw new AssertionError(e);
        }
    }

    private int stallNumber() {
        return draw(25) == 0 || stalls == 0 ? draw(11) - 1 : draw(stalls);
    }

    private int minute() {
        return draw(20) == 0 ? new int[] {-1, 0, 1439, 1440, 1441}[draw(5)] : draw(1440);
    }

    private int bit() {
        return draw(25) == 0 ? draw(4) - 1 : draw(2);
    }

    private int height() {
        return draw(25) == 0 ? new int[] {-1, 61, 60, 0}[draw(4)] : draw(61);
    }

    private int bits() {
        int one = 1 << draw(Math.max(1, stalls));
        if (draw(20) == 0) {
            return new int[] {0, -1, 7, 1 << 8, 1 << 31}[draw(5)];
        }
        // Two stalls on a wide field are dear for the oracle.
        return draw(width * depth > 20 ? 20 : 3) == 0 ? one | 1 << draw(Math.max(1, stalls)) : one;
    }

    private int much() {
        int[] drawn = {draw(100), draw(1000), draw(5000), draw(30000), 0, 99999, 100000, -1};
        return drawn[draw(draw(10) == 0 ? 8 : 5)];
    }

    private int[] argumentsOf(String name) {
        switch (name) {
            case "told":
                return new int[] {draw(10) - 1};
            case "stall":
                return new int[] {stallNumber(), draw(20) == 0 ? draw(10) - 1 : draw(7)};
            case "length":
            case "under":
                return new int[] {stallNumber(), minute()};
            case "net":
                return new int[] {stallNumber(), draw(3) == 0 ? 1440 : minute()};
            case "shades":
                return new int[] {stallNumber(), stallNumber(), minute()};
            case "owes":
                return new int[] {stallNumber(), stallNumber(), draw(3) == 0 ? 1440 : minute()};
            case "minutes":
            case "led":
                return new int[] {stallNumber(), stallNumber()};
            case "chill":
            case "wish":
            case "whose":
            case "harmless":
            case "out":
                return new int[] {stallNumber()};
            case "payments":
                return new int[] {draw(3) == 0 ? 1440 : minute()};
            case "first":
                return new int[] {minute()};
            case "winter":
            case "what":
            case "hour":
            case "improved":
                return new int[] {bit()};
            case "move":
                return new int[] {stallNumber(), draw(10) == 0 ? draw(12) - 1 : draw(width),
                    draw(10) == 0 ? draw(12) - 1 : draw(depth)};
            case "tall":
                return new int[] {stallNumber(), height()};
            case "set":
                return new int[] {bits(), bit()};
            case "pole":
                return new int[] {height(), bit()};
            case "cold":
                return new int[] {stallNumber(), draw(4) == 0 ? draw(1444) - 2 : draw(3) - 1};
            case "days":
                return new int[] {draw(20) == 0 ? new int[] {0, 100, 99, -1}[draw(4)] : 1 + draw(9)};
            case "when":
            case "folded":
                return new int[] {much()};
            case "clouds":
                return new int[] {random.nextInt(), bit()};
            case "span":
                return new int[] {random.nextInt(), draw(20) == 0 ? draw(70) - 3 : 1 + draw(6), bit()};
            case "awned":
                return new int[] {stallNumber(), bit()};
            case "status":
            case "count":
                return new int[] {draw(4) - 1};
            default:
                return new int[0];
        }
    }

    /** Fish that went cold by something that really could have stood there. */
    private void explain() {
        Oracle.Market with = oracle.now.copy();
        Oracle.Market without = oracle.now;
        int x = draw(width);
        int y = draw(depth);
        if (with.at(x, y) != null) {
            return;
        }
        with.stands.add(new Oracle.Stand(x, y, 1 + draw(60)));
        for (int i = 0; i < stalls; i++) {
            int more = with.chill(i) - without.chill(i);
            call("cold", i, draw(3) == 0 ? -1 : Math.max(-1, more));
        }
        call("what", 0);
        call("what", 1);
    }

    /** A text with a fault leaves the market as it was. */
    private void lookAgain() {
        width = oracle.told(0);
        depth = oracle.told(1);
        stalls = oracle.told(2);
    }

    private void run(int calls) {
        tell(marketText());
        for (int i = 0; i < calls; i++) {
            Method m = CALLS[draw(CALLS.length)];
            String name = m.getName();
            if (name.equals("market") && draw(3) > 0) {
                tell(marketText());
            } else if (name.equals("market")) {
                call("market", draw(3) - 1);
                lookAgain();
            } else if (name.equals("feed")) {
                call("count", 1);
            } else if (name.equals("what") && stalls > 1 && draw(3) > 0) {
                explain();
            } else {
                compare(m, argumentsOf(name));
            }
        }
        for (int i = 0; i < 7; i++) {
            call("told", i);
        }
        for (int i = 0; i < stalls; i++) {
            call("stall", i, 0);
            call("stall", i, 1);
            call("stall", i, 2);
        }
        call("due");
        call("status", 0);
        call("status", 1);
    }

    public static void main(String[] arguments) {
        int from = arguments.length > 0 ? Integer.parseInt(arguments[0]) : 1;
        int to = arguments.length > 1 ? Integer.parseInt(arguments[1]) : 250;
        for (int seed = from; seed <= to; seed++) {
            try {
                new CompareTest(seed).run(60);
            } catch (AssertionError e) {
                System.out.println("seed " + seed + ":\n" + e.getMessage());
                System.exit(1);
            }
        }
        System.out.println("drawn runs " + from + " to " + to + " answer alike");
    }
}
