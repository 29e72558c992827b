/** Promises 2 to 5 and the first part of the terms: texts, their faults and their places. */
public final class GrammarTest {
    private GrammarTest() {
    }

    private static void fault(String text, int kind, int place) {
        ShadeLedger x = new ShadeLedger();
        Check.tell(x, "field 3 2;stall 1 1 7;");
        Check.same("market of " + text, Check.tell(x, text), kind - 10);
        Check.same("fault of " + text, x.fault(), place);
        Check.same("the market stays at " + text, x.told(0) * 100 + x.told(1) * 10 + x.told(2), 321);
        Check.same("the tape is empty behind " + text, x.count(1), 0);
        Check.same("no refusal by " + text, x.status(0) + x.status(1), 0);
    }

    private static void good(String text, int stalls) {
        ShadeLedger x = new ShadeLedger();
        Check.same("market of " + text, Check.tell(x, text), stalls);
        Check.same("fault of " + text, x.fault(), -1);
    }

    private static String times(String clause, int n) {
        return clause.repeat(n);
    }

    private static String eightStalls() {
        StringBuilder all = new StringBuilder();
        for (int i = 0; i < 8; i++) {
            all.append("stall ").append(i % 4).append(' ').append(i / 4).append(" 1;");
        }
        return all.toString();
    }

    private static void whatCannotStand() {
        fault("stalls 0 0 1;", 1, 0);
        fault("  stal 0 0 1;", 1, 2);
        fault("Stall 0 0 1;", 1, 0);
        fault(";", 1, 0);
        fault("fold 5;;", 1, 7);
        fault("7;", 1, 0);
        fault("fold", 1, 4);
        fault("fold   ", 1, 7);
        fault("fold 5", 1, 6);
        fault("fold 5  ", 1, 8);
        fault("fold ;", 1, 5);
        fault("fold x;", 1, 5);
        fault("fold -1;", 1, 5);
        fault("fold 5 6;", 1, 7);
        fault("fold 5 a;", 1, 7);
        fault("fold 5, ;", 1, 6);
        fault("stall 0 0;", 1, 9);
        fault("stall 0\t0 1;", 1, 7);
        fault("fieldX 3 3;", 1, 5);
        fault("fold 5;" + (char) 0, 1, 7);
        fault("fold 5;" + (char) 200, 1, 7);
        fault("foldfold 5;", 1, 0);
        fault("foldz 5;", 1, 0);
        fault("hold 5;", 1, 0);
        fault("fole 5;", 1, 0);
        fault("a", 1, 0);
        fault("stall 0 0 1;awning;", 1, 18);
        fault("stall 0 0 1;awning 0;", 1, 20);
        fault("stall 0 0 1;grow 0 1;", 1, 20);
        fault("stall 0 0 1;lantern;", 1, 19);
        fault("sun 0 0 0;", 1, 9);
        fault("rate 0;", 1, 6);
        fault("cloud;", 1, 5);
        fault("dusk;", 1, 4);
        fault("field 3;", 1, 7);
    }

    private static void numbersThatAreNone() {
        fault("field 1 3;", 2, 6);
        fault("field 10 3;", 2, 6);
        fault("field 3 1;", 2, 8);
        fault("field 3 10;", 2, 8);
        fault("field 53;", 2, 6);
        fault("stall 6 0 0;", 2, 6);
        fault("stall 5 4 0;", 2, 8);
        fault("field 2 9;stall 2 0 0;", 2, 16);
        fault("field 9 2;stall 0 2 0;", 2, 18);
        fault("stall 0 0 41;", 2, 10);
        fault("stall 1 1 0;stall 1 1 0;", 2, 20);
        fault("stall 1 1 0;stall  1  1 99;", 2, 22);
        fault("stall 1 1 0;stall 1 1", 2, 20);
        fault("awning 0 0;", 2, 7);
        fault("stall 0 0 0;awning 1 0;stall 1 0 0;", 2, 19);
        fault("stall 0 0 0;awning 0 4;", 2, 21);
        fault("grow 0 0 0;", 2, 5);
        fault("stall 0 0 0;grow 0 6 0;", 2, 19);
        fault("stall 0 0 0;grow 0 0 61;", 2, 21);
        fault("sun 1440 0 0 0;", 2, 4);
        fault("sun 0 3 0 0;", 2, 6);
        fault("sun 0 0 3 0;", 2, 8);
        fault("sun 0 0 0 10;", 2, 10);
        fault("rate 1440 0;", 2, 5);
        fault("rate 0 10;", 2, 7);
        fault("fold 1441;", 2, 5);
        fault("dusk 1441;", 2, 5);
        fault("cloud 9;", 2, 6);
        fault("lantern 0;", 2, 8);
        fault("stall 0 0 0;lantern 1;", 2, 20);
        fault("fold 4294967301;", 2, 5);
        fault("fold 18446744073709551616000;", 2, 5);
        fault("fold 1441", 2, 5);
    }

    private static void tooManyOrTooLate() {
        good(times("fold0;", 60), 0);
        fault(times("fold0;", 61), 3, 360);
        fault(times("fold0;", 60) + " fold", 3, 361);
        fault(times("fold0;", 60) + "x", 1, 360);
        fault(times("fold0;", 60) + "field 3 3;", 3, 360);
        good(times("fold0;", 60) + "   ", 0);
        good(eightStalls(), 8);
        fault(eightStalls() + "stall 9 9 99;", 3, 96);
        good(times("sun 0 0 0 0;", 20), 0);
        fault(times("sun 0 0 0 0;", 20) + " sun", 3, 241);
        good(times("rate 0 1;", 20), 0);
        fault(times("rate 0 1;", 20) + "rate 0 1;", 3, 180);
        fault("fold 5;field 3 3;", 4, 7);
        fault("field 3 3; field 3 3;", 4, 11);
        fault("stall 0 0 1;field 1 1;", 4, 12);
    }

    private static void blanksAndDigits() {
        good("", 0);
        good("     ", 0);
        good("field5 3;stall0 0 1;", 1);
        good("  field   5   3  ;  stall 0 0 1  ;  ", 1);
        good("fold 0000000000000000000000000000012;", 0);
        good("field 2 2;stall 1 1 40;awning 0 3;grow 0 5 60;sun 1439 2 2 9;rate 1439 9;fold 1440;dusk 1440;cloud 8;",
                1);
    }

    private static void whatWasTold() {
        ShadeLedger x = Check.of("field 9 2;stall 8 1 40;stall 0 0 3;awning 0 3;awning 0 2;grow 1 4 50;grow 1 5 60;"
                + "lantern 1;fold 9;fold 1234;dusk 8;dusk 77;cloud 8;cloud 3;");
        int[] told = {9, 2, 2, 0, 0, 1234, 77, 3};
        for (int i = 0; i < told.length; i++) {
            Check.same("told " + i, x.told(i), told[i]);
        }
        int[][] stalls = {{8, 1, 40, 2, 0, 0, 0}, {0, 0, 3, 0, 5, 60, 1}};
        for (int k = 0; k < 2; k++) {
            for (int i = 0; i < 7; i++) {
                Check.same("stall " + k + " " + i, x.stall(k, i), stalls[k][i]);
            }
        }
        Check.tell(x, "stall 1 1 1;");
        int[] without = {6, 4, 1, 0, 0, 1440, 1440, 0};
        for (int i = 0; i < without.length; i++) {
            Check.same("told without " + i, x.told(i), without[i]);
        }
        int[] stall = {1, 1, 1, 0, 0, 0, 0};
        for (int i = 0; i < 7; i++) {
            Check.same("stall without " + i, x.stall(0, i), stall[i]);
        }
    }

    private static void tape() {
        ShadeLedger x = new ShadeLedger();
        Check.same("new tape", x.count(1), 0);
        Check.same("highest first", x.feed(0x666f6c64, 0x20372030, 0x3b3b3b3b, 0, -1), 20);
        Check.same("one byte more than there is", refusedMarket(x, 21), true);
        Check.same("less than none", refusedMarket(x, -1), true);
        Check.same("a refusal leaves the tape", x.count(1), 20);
        Check.same("fold 7 0 has a fault at the second number", x.market(8), -9);
        Check.same("there", x.fault(), 7);
        x.feed(0x666f6c64, 0x37373b3b, 0x3b3b3b3b, 0, -1);
        Check.same("only the first bytes", x.market(7), 0);
        Check.same("fold", x.told(5), 77);
        Check.same("the rest of the tape is gone", x.count(1), 0);
        for (int i = 1; i <= 30; i++) {
            Check.same("fed " + i, x.feed(0x20202020, 0x20202020, 0x20202020, 0x20202020, 0x20202020), 20 * i);
        }
        Check.same("too many bytes", x.feed(1, 2, 3, 4, 5), -1);
        Check.same("nothing came", x.count(1), 600);
        Check.same("600 blanks", x.market(600), 0);
        Check.same("a fault's place stays behind a refused call", refusedAfterFault(), 5);
    }

    private static boolean refusedMarket(ShadeLedger x, int n) {
        try {
            x.market(n);
            return false;
        } catch (IllegalArgumentException e) {
            return true;
        }
    }

    private static int refusedAfterFault() {
        ShadeLedger x = new ShadeLedger();
        Check.tell(x, "fold x;");
        refusedMarket(x, 1);
        return x.fault();
    }

    public static void main(String[] arguments) {
        whatCannotStand();
        numbersThatAreNone();
        tooManyOrTooLate();
        blanksAndDigits();
        whatWasTold();
        tape();
        Check.finish("GrammarTest");
    }
}
