import java.util.concurrent.Callable;

/** What the tests share: counting what is wrong, and telling a market as bytes of the tape. */
public final class Check {
    private static int wrong = 0;
    private static boolean used = false;

    private Check() {
    }

    static void same(String what, Object got, Object want) {
        if (!want.equals(got)) {
            wrong++;
            System.out.println(what + ": answered " + got + ", due is " + want);
        }
    }

    static void refused(String what, Class<?> want, Callable<?> call) {
        try {
            same(what, call.call(), want);
        } catch (Exception e) {
            same(what, e.getClass(), want);
        }
    }

    /** A refused call throws what is due, is counted by its reason alone, and changes nothing else. */
    static void refusedBare(String what, ShadeLedger x, Class<?> want, Callable<?> call) {
        String before = state(x);
        int stalls = x.status(0);
        int arguments = x.status(1);
        refused(what, want, call);
        boolean noStall = want == java.util.NoSuchElementException.class;
        same(what + ": refused for a STALL", x.status(0) - stalls, noStall ? 1 : 0);
        same(what + ": refused for an argument", x.status(1) - arguments, noStall ? 0 : 1);
        same(what + ": refused, all stays", state(x), before);
    }

    /** All that a caller can see without a question that is reckoned. */
    static String state(ShadeLedger x) {
        StringBuilder all = new StringBuilder("told");
        for (int i = 0; i < 8; i++) {
            all.append(' ').append(x.told(i));
        }
        all.append(" fault ").append(x.fault()).append(" rounds ").append(x.rounds());
        all.append(" images ").append(x.count(0)).append(" tape ").append(x.count(1));
        for (int k = 0; k < x.told(2); k++) {
            all.append(" stall");
            for (int i = 0; i < 7; i++) {
                all.append(' ').append(x.stall(k, i));
            }
            int cold = x.cold(k, -1);
            x.cold(k, cold);
            all.append(" cold ").append(cold);
        }
        return all.toString();
    }

    static void finish(String name) {
        System.out.println(wrong == 0 ? name + ": all as due" : name + ": " + wrong + " wrong");
        if (wrong != 0) {
            System.exit(1);
        }
    }

    /** Puts a text on the tape, filled up with zeros. */
    static void feed(ShadeLedger x, String text) {
        for (int i = 0; i < text.length(); i += 20) {
            int[] five = new int[5];
            for (int j = 0; j < 20; j++) {
                five[j / 4] = five[j / 4] << 8 | (i + j < text.length() ? text.charAt(i + j) & 255 : 0);
            }
            x.feed(five[0], five[1], five[2], five[3], five[4]);
        }
    }

    static int tell(ShadeLedger x, String text) {
        feed(x, text);
        return x.market(text.length());
    }

    /** Runs tests with new objects, then with ones that have known other markets, of which nothing may stay. */
    static void newAndUsed(Runnable tests) {
        used = false;
        tests.run();
        used = true;
        tests.run();
        used = false;
    }

    private static ShadeLedger usedOne() {
        StringBuilder text = new StringBuilder("field 9 9;");
        for (int k = 0; k < 8; k++) {
            text.append("stall ").append(k % 3).append(' ').append(k / 3).append(" 40;awning ").append(k).append(" 3;grow ");
            text.append(k).append(" 5 60;lantern ").append(k).append(';');
        }
        for (int i = 0; i < 9; i++) {
            text.append("sun ").append(100 * i).append(' ').append(i % 3).append(' ').append(i / 3).append(" 9;");
        }
        text.append("rate 0 9;rate 100 8;rate 300 7;rate 500 9;rate 900 8;dusk 0;cloud 8;fold 1000;");
        ShadeLedger x = new ShadeLedger();
        for (int i = 0; i < 2; i++) {
            tell(x, text.toString());
            x.image();
            x.days(9);
            x.winter(1);
            for (int k = 0; k < 8; k++) {
                x.cold(k, 9);
            }
            x.image();
        }
        x.clouds(1, 0);
        x.what(0);
        x.payments(1440);
        x.set(3, 1);
        x.awned(0, 1);
        x.play();
        return x;
    }

    static ShadeLedger of(String text) {
        ShadeLedger x = used ? usedOne() : new ShadeLedger();
        int stalls = tell(x, text);
        if (stalls < 0) {
            same("fault in " + text, stalls, 0);
        }
        return x;
    }
}
