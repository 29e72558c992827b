import java.util.NoSuchElementException;

/** Promises 1 to 45, one method each at least, with answers reckoned by hand from the document. */
public final class PromisesTest {
    private static final Class<?> NO_STALL = NoSuchElementException.class;
    private static final Class<?> NO_ARGUMENT = IllegalArgumentException.class;

    /**
     * 0 shades 1 from 100 to 169 (10 by rate 1, 80 by rate 2, 80 by lantern), 1 shades 0 from 170 to 209
     * (60 by rate 2, nothing by rate 0).
     */
    private static final String TWO = "field 4 2;stall 0 0 10;stall 1 0 10;lantern 0;sun 100 2 1 1;sun 170 0 1 1;"
            + "rate 110 2;rate 200 0;dusk 150;fold 210;cloud 2;";
    /** 0 shades 1 in 100 minutes. */
    private static final String SQUARE = "field 2 2;stall 0 0 10;stall 1 0 0;sun 0 2 1 1;fold 100;";
    /** Both 0 and 1 shade 2; by the first sun 1 does not, if it is below 10. */
    private static final String ROW = "field 5 2;stall 0 0 20;stall 1 0 10;stall 2 0 0;sun 0 2 1 1;sun 10 2 1 2;"
            + "fold 20;";
    private static final String GROWING = "field 3 2;stall 0 0 0;stall 2 0 0;grow 0 5 22;sun 0 2 1 1;fold 10;";

    private PromisesTest() {
    }

    private static void newObject() {
        ShadeLedger x = new ShadeLedger();
        int[] told = {6, 4, 0, 0, 0, 1440, 1440, 0};
        for (int i = 0; i < told.length; i++) {
            Check.same("1: told " + i, x.told(i), told[i]);
        }
        Check.same("1: fault", x.fault(), -1);
        Check.same("1: rounds", x.rounds(), 0);
        Check.same("1: counts", x.count(0) + x.count(1) + x.status(0) + x.status(1), 0);
        Check.same("1: due", x.due(), 0);
        Check.same("1: restore", x.restore(), -1);
        Check.same("1: NONE", ShadeLedger.NONE, -1);
        Check.refused("1: stall", NO_STALL, () -> x.stall(0, 0));
    }

    private static void marketAnew() {
        ShadeLedger x = Check.of(GROWING);
        x.days(3);
        x.winter(1);
        x.cold(0, 5);
        x.image();
        x.play();
        Check.same("3: a fault", Check.tell(x, "stall 0 0 1;stall"), -9);
        Check.same("3: its place", x.fault(), 17);
        Check.same("3: all stays: DAY", x.told(3), 3);
        Check.same("3: all stays: WINTER", x.told(4), 1);
        Check.same("3: all stays: IMAGES", x.count(0), 1);
        Check.same("3: all stays: rounds", x.rounds() > 0, true);
        Check.same("3: all stays: COLD", x.cold(0, 5), 5);
        Check.same("3: anew", Check.tell(x, GROWING), 2);
        Check.same("4: no fault any more", x.fault(), -1);
        Check.same("3: DAY", x.told(3), 0);
        Check.same("3: WINTER", x.told(4), 0);
        Check.same("3: IMAGES", x.count(0), 0);
        Check.same("3: COLD", x.cold(0, -1), -1);
        Check.same("3: rounds", x.rounds(), 0);
        Check.same("3: height", x.stall(0, 2), 0);
        Check.same("3: an empty one", x.market(0), 0);
        Check.same("3: nobody", x.told(2), 0);
    }

    private static void toldAndStall() {
        ShadeLedger x = Check.of(TWO);
        Check.refused("5: what 8", NO_ARGUMENT, () -> x.told(8));
        Check.refused("5: what -1", NO_ARGUMENT, () -> x.told(-1));
        Check.refused("6: what 7", NO_ARGUMENT, () -> x.stall(1, 7));
        Check.refused("6: what -1", NO_ARGUMENT, () -> x.stall(1, -1));
        Check.refused("6: STALL 2", NO_STALL, () -> x.stall(2, 7));
        Check.refused("6: STALL -1", NO_STALL, () -> x.stall(-1, 0));
        Check.same("6: lantern", x.stall(0, 6) * 10 + x.stall(1, 6), 10);
    }

    private static void lengthOfShadow() {
        ShadeLedger x = Check.of("stall 0 0 19;sun 10 2 1 3;sun 20 1 1 9;sun 30 0 0 1;sun 30 0 0 9;fold 40;");
        Check.same("7: ahead of any sun", x.length(0, 9), 0);
        Check.same("7: 57 by 10, cut", x.length(0, 10), 5);
        Check.same("7: the same sun", x.length(0, 19), 5);
        Check.same("7: it lies nowhere", x.length(0, 20), 0);
        Check.same("7: the last of one MINUTE, beyond the field", x.length(0, 39), 17);
        Check.same("7: folded", x.length(0, 40), 0);
        x.winter(1);
        Check.same("7: 114 by 10", x.length(0, 10), 11);
        Check.refused("7: 1440", NO_ARGUMENT, () -> x.length(0, 1440));
        Check.refused("7: -1", NO_ARGUMENT, () -> x.length(0, -1));
        Check.refused("7: STALL ahead of MINUTE", NO_STALL, () -> x.length(1, -1));
    }

    private static void whoShadesWhom() {
        ShadeLedger x = Check.of(TWO);
        Check.same("8: before", x.shades(0, 1, 99), false);
        Check.same("8: then", x.shades(0, 1, 100), true);
        Check.same("8: not back", x.shades(1, 0, 100), false);
        Check.same("8: back later", x.shades(1, 0, 170), true);
        Check.same("8: folded", x.shades(1, 0, 210), false);
        Check.refused("8: one STALL", NO_ARGUMENT, () -> x.shades(1, 1, 5));
        Check.refused("8: MINUTE", NO_ARGUMENT, () -> x.shades(1, 0, 1440));
        Check.refused("8: other", NO_STALL, () -> x.shades(1, 2, 1440));
        Check.same("9: under", x.under(1, 100) * 100 + x.under(0, 170) * 10 + x.under(0, 100), 120);
        Check.refused("9: MINUTE", NO_ARGUMENT, () -> x.under(1, 1440));
        Check.refused("9: STALL", NO_STALL, () -> x.under(2, 1440));
        ShadeLedger row = Check.of(ROW);
        Check.same("9: two", row.under(2, 0), 3);
        row.tall(1, 20);
        Check.same("8: one as tall between", row.shades(0, 2, 0), true);
        row.tall(1, 21);
        Check.same("8: a taller one between", row.shades(0, 2, 0), false);
        Check.same("8: the taller one itself", row.shades(0, 1, 0), true);
    }

    private static void steps() {
        for (int i = 0; i < 3; i++) {
            for (int j = 0; j < 3; j++) {
                StringBuilder text = new StringBuilder("field 9 9;stall 4 4 20;");
                for (int k = 0; k < 7; k++) {
                    int at = k < 4 ? k : k + 1;
                    text.append("stall ").append(4 + 2 * (at % 3 - 1)).append(' ').append(4 + 2 * (at / 3 - 1));
                    text.append(" 0;");
                }
                text.append("sun 0 ").append(i).append(' ').append(j).append(" 1;");
                ShadeLedger x = Check.of(text.toString());
                for (int k = 0; k < 7; k++) {
                    int at = k < 4 ? k : k + 1;
                    Check.same("8: steps " + i + " " + j + " to " + at, x.shades(0, k + 1, 0), at == i + 3 * j);
                }
                x.tall(0, 19);
                Check.same("8: too short", x.first(0), -1);
            }
        }
    }

    private static void awnings() {
        ShadeLedger x = Check.of("field 2 4;stall 0 0 40;awning 0 2;stall 0 1 20;stall 0 2 0;stall 0 3 0;sun 0 1 2 1;"
                + "fold 9;");
        Check.same("8: no shield against its own STALL", x.shades(0, 2, 0), true);
        Check.same("8: under another one's awning", x.shades(1, 2, 0), false);
        Check.same("8: two CELLS, no more", x.shades(1, 3, 0), true);
        Check.same("9: two on the last", x.under(3, 0), 3);
        x.move(0, 1, 0);
        Check.same("8: the awning goes with it", x.shades(1, 2, 0), true);
        ShadeLedger y = Check.of("field 3 3;stall 1 0 0;awning 0 3;stall 1 2 0;stall 0 2 10;stall 1 1 10;"
                + "sun 0 2 1 1;sun 10 1 2 1;");
        Check.same("8: from the side", y.shades(2, 1, 0), false);
        Check.same("8: from above", y.shades(3, 1, 10), false);
    }

    private static void minutesAndChill() {
        ShadeLedger x = Check.of(TWO);
        Check.same("10: 0 on 1", x.minutes(0, 1), 70);
        Check.same("10: 1 on 0", x.minutes(1, 0), 40);
        Check.refused("10: one STALL", NO_ARGUMENT, () -> x.minutes(0, 0));
        Check.refused("10: STALL", NO_STALL, () -> x.minutes(0, 2));
        Check.refused("10: STALLS", NO_STALL, () -> x.minutes(2, 2));
        Check.same("11: CHILL", x.chill(0) * 100 + x.chill(1), 4070);
        Check.refused("11: STALL", NO_STALL, () -> x.chill(2));
        ShadeLedger row = Check.of(ROW);
        Check.same("11: a MINUTE counts once", row.chill(2), 20);
        Check.same("11: nobody", row.chill(0), 0);
    }

    private static void debts() {
        ShadeLedger x = Check.of(TWO);
        int[][] owes = {{0, 0}, {100, 0}, {101, 1}, {110, 10}, {111, 12}, {150, 90}, {151, 94}, {170, 170}, {1440, 170}};
        for (int[] o : owes) {
            Check.same("12: up to " + o[0], x.owes(0, 1, o[0]), o[1]);
        }
        Check.same("12: no lantern", x.owes(1, 0, 1440), 60);
        Check.same("12: up to 171", x.owes(1, 0, 171), 2);
        Check.refused("12: MINUTE", NO_ARGUMENT, () -> x.owes(0, 1, 1441));
        Check.refused("12: one STALL", NO_ARGUMENT, () -> x.owes(0, 0, 1));
        Check.refused("12: STALL", NO_STALL, () -> x.owes(0, 2, 1441));
        Check.same("13: 0", x.net(0, 1440), -110);
        Check.same("13: 1", x.net(1, 1440), 110);
        Check.same("13: up to 170", x.net(1, 170), 170);
        Check.refused("13: MINUTE", NO_ARGUMENT, () -> x.net(0, 1441));
        Check.refused("13: STALL", NO_STALL, () -> x.net(2, 0));
        Check.same("15: all DUE", x.due(), 230);
        Check.same("14: none yet", x.payments(100), 0);
        Check.same("14: one", x.payments(1440), 1);
        Check.refused("14: MINUTE", NO_ARGUMENT, () -> x.payments(1441));
        Check.refused("14: MINUTE -1", NO_ARGUMENT, () -> x.payments(-1));
    }

    private static void fewestPayments() {
        Check.same("14: one to two", Check.of("stall 0 0 20;stall 1 0 0;stall 2 0 0;sun 0 2 1 1;").payments(9), 2);
        String pairs = "field 9 4;stall 0 0 10;stall 1 0 0;stall 0 1 10;stall 1 1 0;";
        Check.same("14: two pairs", Check.of(pairs + "sun 0 2 1 1;").payments(9), 2);
        String more = pairs + "stall 0 2 20;stall 1 2 0;stall 2 2 0;sun 0 2 1 1;";
        ShadeLedger x = Check.of(more);
        Check.same("14: -9 9 -9 9 -18 9 9", x.payments(9), 4);
        x.tall(2, 20);
        x.tall(0, 0);
        x.move(1, 2, 1);
        Check.same("14: 0 9 -18 9 -18 9 9", x.payments(9), 4);
        Check.same("14: nobody owes", x.payments(0), 0);
        Check.same("14: the very first MINUTE", x.payments(1), 4);
        StringBuilder four = new StringBuilder("field 2 4;");
        for (int i = 0; i < 4; i++) {
            four.append("stall 0 ").append(i).append(" 10;stall 1 ").append(i).append(" 0;");
        }
        Check.same("14: four pairs", Check.of(four + "sun 0 2 1 1;").payments(1440), 4);
    }

    private static void firstMinute() {
        ShadeLedger x = Check.of(TWO);
        int[][] first = {{0, 100}, {100, 100}, {105, 105}, {169, 169}, {170, 170}, {209, 209}, {210, -1}, {1439, -1}};
        for (int[] f : first) {
            Check.same("16: from " + f[0], x.first(f[0]), f[1]);
        }
        x.tall(0, 9);
        Check.same("16: the next sun", x.first(0), 170);
        Check.refused("16: MINUTE", NO_ARGUMENT, () -> x.first(1440));
        Check.refused("16: MINUTE -1", NO_ARGUMENT, () -> x.first(-1));
    }

    private static void changes() {
        ShadeLedger x = Check.of(TWO);
        Check.same("17: WINTER", x.winter(1), 0);
        Check.same("17: told", x.told(4), 1);
        Check.same("17: still", x.winter(1), 1);
        x.tall(0, 5);
        Check.same("17: 5 is enough", x.shades(0, 1, 100), true);
        Check.same("17: over", x.winter(0), 1);
        Check.same("17: 5 is not enough", x.shades(0, 1, 100), false);
        Check.refused("17: 2", NO_ARGUMENT, () -> x.winter(2));
        Check.refused("17: -1", NO_ARGUMENT, () -> x.winter(-1));
        Check.same("18: taken", x.move(0, 1, 0), 0);
        Check.same("18: its own CELL is not free", x.move(0, 0, 0), 0);
        Check.same("18: free", x.move(0, 3, 1), 1);
        Check.same("18: there", x.stall(0, 0) * 10 + x.stall(0, 1), 31);
        Check.refused("18: X", NO_ARGUMENT, () -> x.move(0, 4, 0));
        Check.refused("18: Y", NO_ARGUMENT, () -> x.move(0, 0, 2));
        Check.refused("18: below", NO_ARGUMENT, () -> x.move(0, -1, 0));
        Check.refused("18: STALL", NO_STALL, () -> x.move(2, 4, 0));
        Check.same("19: was 5", x.tall(0, 60), 5);
        Check.same("19: was 60", x.tall(0, 0), 60);
        Check.refused("19: 61", NO_ARGUMENT, () -> x.tall(0, 61));
        Check.refused("19: -1", NO_ARGUMENT, () -> x.tall(0, -1));
        Check.refused("19: STALL", NO_STALL, () -> x.tall(-1, 61));
        Check.same("19: stays", x.stall(0, 2), 0);
    }

    private static void setAnew() {
        ShadeLedger x = Check.of(SQUARE);
        Check.same("20: 0 goes down", x.set(1, 0) * 1000 + x.set(1, 1), 10);
        Check.same("20: 1 goes down", x.set(2, 0) * 1000 + x.set(2, 1), 10);
        Check.same("20: both", x.set(3, 0) * 1000 + x.set(3, 1), 10);
        Check.same("20: nothing stays changed", x.due(), 100);
        ShadeLedger y = Check.of("field 2 2;stall 0 0 10;stall 1 0 0;stall 0 1 0;sun 0 2 1 1;fold 100;");
        Check.same("20: they may change CELLS", y.set(5, 1), 1000);
        Check.same("20: and then", y.set(5, 0), 0);
        Check.same("20: the first one's CELL alone", y.set(1, 1), 11);
        Check.same("20: where it is", Check.of("stall 2 1 9;").set(1, 1), 0);
        for (int bits : new int[] {0, -1, 4, 8, 9, 7, 1 << 31}) {
            Check.refused("20: " + bits, NO_ARGUMENT, () -> x.set(bits, 0));
        }
        Check.refused("20: three", NO_ARGUMENT, () -> y.set(7, 0));
        Check.refused("20: what", NO_ARGUMENT, () -> x.set(1, 2));
    }

    private static void exchanges() {
        ShadeLedger x = Check.of(SQUARE);
        Check.same("21: 0 and 1", x.exchange(), 1);
        Check.same("39: once", x.improved(0), 1);
        Check.same("39: nothing is due", x.improved(1), 0);
        Check.same("39: nothing stays changed", x.due() * 100 + x.stall(0, 0) * 10 + x.stall(1, 0), 10001);
        Check.refused("39: what", NO_ARGUMENT, () -> x.improved(2));
        ShadeLedger two = Check.of(TWO);
        Check.same("21: 250 is not less", two.exchange(), -1);
        Check.same("39: never", two.improved(0), 0);
        Check.same("39: as now", two.improved(1), 230);
        ShadeLedger y = Check.of("field 9 2;stall 0 0 10;stall 1 0 0;stall 8 1 0;stall 6 1 0;sun 0 2 1 1;fold 7;");
        Check.same("21: of alike ones the first", y.exchange(), 1);
    }

    private static void onePoleMore() {
        ShadeLedger x = Check.of(SQUARE);
        Check.same("22: below", x.pole(10, 0), 10);
        Check.same("22: all DUE", x.pole(10, 1), 100);
        Check.same("22: nothing stays", x.told(2), 2);
        Check.refused("22: height", NO_ARGUMENT, () -> x.pole(61, 0));
        Check.refused("22: height -1", NO_ARGUMENT, () -> x.pole(-1, 0));
        Check.refused("22: what", NO_ARGUMENT, () -> x.pole(0, 2));
        ShadeLedger full = Check.of("field 2 2;stall 0 0 1;stall 0 1 1;stall 1 0 1;stall 1 1 1;");
        Check.same("22: no CELL is free", full.pole(5, 0) * 10 + full.pole(5, 1), -11);
        StringBuilder eight = new StringBuilder();
        for (int i = 0; i < 8; i++) {
            eight.append("stall ").append(i % 4).append(' ').append(i / 4).append(" 1;");
        }
        Check.same("22: 8 STALLS", Check.of(eight.toString()).pole(5, 1), -1);
        Check.same("22: 7 STALLS", Check.of(eight.substring(0, 84)).pole(5, 0), 4);
        Check.same("22: it is shaded, too", Check.of("field 2 2;stall 0 0 20;stall 1 0 0;stall 0 1 0;sun 0 2 2 1;"
                + "fold 3;").pole(0, 1), 3);
    }

    private static void wishes() {
        ShadeLedger x = Check.of(TWO);
        Check.same("23: 9 and 60 is more than 10 and -110", x.wish(0), 9);
        Check.same("23: STALL 1", x.wish(1), 9);
        Check.same("23: nothing stays changed", x.stall(0, 2), 10);
        Check.refused("23: STALL", NO_STALL, () -> x.wish(2));
        ShadeLedger y = Check.of("field 2 2;stall 0 0 10;stall 1 0 0;grow 0 1 40;sun 0 2 1 1;fold 10;");
        Check.same("23: 40 less 10", y.wish(0), 40);
        ShadeLedger z = Check.of("field 2 2;stall 0 0 10;stall 1 0 0;grow 0 1 19;sun 0 2 1 1;fold 10;");
        Check.same("23: alike: 19 less 10, or 9", z.wish(0), 9);
        z.tall(0, 60);
        Check.same("23: to L, though it is taller", z.wish(0), 9);
        Check.same("23: to its own", z.wish(1), 0);
    }

    private static void plays() {
        ShadeLedger x = Check.of(TWO);
        Check.same("24: REST", x.play(), 1);
        Check.same("25: with the last one", x.rounds(), 2);
        Check.same("24: heights are as they are then", x.stall(0, 2) * 100 + x.stall(1, 2), 909);
        Check.same("24: again", x.play() * 10 + x.rounds(), 11);
        ShadeLedger ring = Check.of("field 4 3;stall 3 1 6;stall 2 1 14;grow 1 5 57;stall 0 1 20;grow 2 5 37;"
                + "stall 3 0 29;stall 1 1 21;grow 4 5 58;sun 18 2 1 1;sun 55 0 0 1;sun 23 0 1 5;fold 29;");
        Check.same("24: RING", ring.play(), 0);
        Check.same("25: till heights are as behind an earlier round", ring.rounds(), 4);
        int one = ring.stall(1, 2);
        Check.same("24: RING again", ring.play(), 0);
        Check.same("25: till heights are as at the beginning", ring.rounds(), 3);
        Check.same("24: as at the beginning", ring.stall(1, 2), one);
    }

    private static void coldFish() {
        ShadeLedger x = Check.of("field 3 2;stall 2 0 0;sun 0 2 1 1;sun 100 1 2 1;fold 150;");
        Check.same("27: nothing told", x.what(0), 300);
        Check.same("27: the first", x.what(1), 100);
        Check.same("26: was nothing", x.cold(0, 100), -1);
        Check.same("27: 41 and 51 heights", x.what(0), 92);
        Check.same("27: 20 tall at 0 0", x.what(1), 2000);
        Check.same("26: was 100", x.cold(0, 0), 100);
        Check.same("27: 19, 9 and 180", x.what(0), 208);
        x.move(0, 2, 1);
        x.cold(0, 50);
        Check.same("27: from above, 10 and taller", x.what(0), 51);
        Check.same("27: at 2 0", x.what(1), 1002);
        x.cold(0, 77);
        Check.same("27: nothing explains it", x.what(0) * 10 + x.what(1), -1);
        Check.same("26: nothing again", x.cold(0, -1), 77);
        Check.same("27: all", x.what(0), 300);
        Check.refused("26: 1441", NO_ARGUMENT, () -> x.cold(0, 1441));
        Check.refused("26: -2", NO_ARGUMENT, () -> x.cold(0, -2));
        Check.refused("26: STALL", NO_STALL, () -> x.cold(1, 1441));
        Check.refused("27: what", NO_ARGUMENT, () -> x.what(2));
        ShadeLedger row = Check.of(ROW);
        row.cold(2, 0);
        row.cold(1, 0);
        row.cold(0, 0);
        Check.same("27: in SHADE anyway: all but none", row.what(0), 7 * 60);
    }

    private static void daysGoBy() {
        ShadeLedger x = Check.of(GROWING);
        Check.same("29: 20 tall on DAY 4", x.when(0), 4);
        Check.same("29: above 9", x.when(9), 4);
        Check.same("29: never above 10", x.when(10), -1);
        Check.same("29: nothing stays changed", x.told(3) * 100 + x.stall(0, 2), 0);
        Check.same("28: one", x.days(1) * 100 + x.stall(0, 2), 105);
        Check.same("29: later by 3", x.when(0), 3);
        Check.same("28: three more", x.days(3) * 100 + x.stall(0, 2), 420);
        Check.same("29: today", x.when(0), 0);
        Check.same("28: to L at most", x.days(1) * 100 + x.stall(0, 2), 522);
        x.tall(0, 30);
        Check.same("28: what is taller stays", x.days(1) * 100 + x.stall(0, 2), 630);
        Check.same("28: who does not grow", x.stall(1, 2), 0);
        for (int i = 0; i < 10; i++) {
            x.days(99);
        }
        Check.same("28: 996", x.told(3), 996);
        x.tall(0, 0);
        Check.same("28: no further", x.days(99), 999);
        Check.same("28: three DAYS went by", x.stall(0, 2), 15);
        Check.same("28: none more", x.days(1) * 100 + x.stall(0, 2), 99915);
        Check.refused("28: 0", NO_ARGUMENT, () -> x.days(0));
        Check.refused("28: 100", NO_ARGUMENT, () -> x.days(100));
        Check.refused("29: -1", NO_ARGUMENT, () -> x.when(-1));
        Check.refused("29: 100000", NO_ARGUMENT, () -> x.when(100000));
        Check.same("29: 99999", x.when(99999), -1);
    }

    private static void cloudsDrawn() {
        ShadeLedger x = Check.of(TWO);
        int hours = 1 << 2 | 1 << 14 | 1 << 16 | 1 << 18;
        Check.same("30: draws 6 6 1 3 3 3 2 3 4 6 5 7 4 4 1 7 1 7 1 6 6 2 7 7", x.clouds(1, 1), hours);
        Check.same("30: HOUR 2 is not due", x.clouds(1, 0), 70);
        Check.same("31: one SEED", x.span(1, 1, 0) * 1000 + x.span(1, 1, 1), 70070);
        int least = 1000;
        int most = 0;
        for (int i = -1; i < 5; i++) {
            least = Math.min(least, x.clouds(i, 0));
            most = Math.max(most, x.clouds(i, 0));
        }
        Check.same("31: two SEEDS", x.span(1, 2, 0) * 1000 + x.span(1, 2, 1), 1000
                * Math.min(70, x.clouds(2, 0)) + Math.max(70, x.clouds(2, 0)));
        Check.same("31: SEED 3 is another one", x.clouds(3, 0) == x.clouds(4, 0), false);
        Check.same("31: SEEDS 3 and 4", x.span(3, 2, 1) - x.span(3, 2, 0), Math.abs(x.clouds(3, 0) - x.clouds(4, 0)));
        Check.same("31: least of six", x.span(-1, 6, 0), least);
        Check.same("31: greatest of six", x.span(-1, 6, 1), most);
        Check.same("31: it wraps", x.span(Integer.MAX_VALUE, 2, 0),
                Math.min(x.clouds(Integer.MAX_VALUE, 0), x.clouds(Integer.MIN_VALUE, 0)));
        Check.same("30: without clouds drawn there are none", x.due(), 230);
        Check.refused("30: what", NO_ARGUMENT, () -> x.clouds(1, 2));
        Check.refused("31: what", NO_ARGUMENT, () -> x.span(1, 1, -1));
        Check.refused("31: none", NO_ARGUMENT, () -> x.span(1, 0, 0));
        Check.refused("31: 61", NO_ARGUMENT, () -> x.span(1, 61, 0));
        Check.same("31: 60", x.span(1, 60, 0) <= x.span(1, 60, 1), true);
        Check.same("30: C 0", Check.of(SQUARE).clouds(1, 1), 0);
        Check.same("30: C 8", Check.of(SQUARE + "cloud 8;").clouds(1, 1), 0xFFFFFF);
    }

    private static void led() {
        ShadeLedger row = Check.of(ROW);
        Check.same("32: never alone", row.led(2, 0) + row.led(2, 1), 0);
        Check.same("33: NONE", row.whose(2), -1);
        row.tall(1, 9);
        Check.same("32: alone by the first sun", row.led(2, 0), 10);
        Check.same("32: the other one never", row.led(2, 1), 0);
        Check.same("33: 0", row.whose(2), 0);
        row.tall(1, 21);
        Check.same("32: the taller one alone", row.led(2, 1), 20);
        Check.same("33: 1", row.whose(2), 1);
        Check.same("33: nobody", row.whose(0), -1);
        Check.refused("32: one STALL", NO_ARGUMENT, () -> row.led(1, 1));
        Check.refused("32: STALL", NO_STALL, () -> row.led(1, 3));
        Check.refused("33: STALL", NO_STALL, () -> row.whose(3));
        ShadeLedger alike = Check.of("field 3 2;stall 0 0 10;stall 2 0 10;stall 1 0 0;sun 0 0 1 1;sun 5 2 1 1;fold 10;");
        Check.same("33: of alike ones the first", alike.whose(2), 0);
    }

    private static void harmlessHeights() {
        ShadeLedger x = Check.of(TWO);
        Check.same("34: below 10", x.harmless(0), 9);
        Check.same("34: nothing stays changed", x.stall(0, 2), 10);
        x.move(1, 1, 1);
        Check.same("34: nobody there", x.harmless(0), 60);
        x.move(1, 3, 0);
        Check.same("34: three CELLS off", x.harmless(0), 29);
        Check.refused("34: STALL", NO_STALL, () -> x.harmless(2));
        ShadeLedger folded = Check.of("stall 0 0 40;stall 1 0 0;sun 5 2 1 1;fold 5;");
        Check.same("34: folded", folded.harmless(0), 60);
        ShadeLedger between = Check.of("field 4 2;stall 0 0 9;stall 1 0 40;stall 2 0 5;stall 3 0 0;sun 0 2 1 1;");
        Check.same("34: hidden by a taller one", between.harmless(2), 9);
    }

    private static void foldedEarly() {
        ShadeLedger x = Check.of(TWO);
        int[][] folds = {{0, 100}, {1, 101}, {228, 199}, {229, 199}, {230, 210}, {99999, 210}};
        for (int[] f : folds) {
            Check.same("35: no more than " + f[0], x.folded(f[0]), f[1]);
        }
        Check.same("35: nothing stays changed", x.told(5), 210);
        Check.refused("35: -1", NO_ARGUMENT, () -> x.folded(-1));
        Check.refused("35: 100000", NO_ARGUMENT, () -> x.folded(100000));
        Check.same("35: folded all DAY", Check.of("fold 0;").folded(5), 0);
    }

    private static void awnedLightsHours() {
        ShadeLedger x = Check.of(TWO);
        Check.same("36: the least", x.awned(0, 0), 0);
        Check.same("36: GAIN", x.awned(0, 1), -110);
        Check.same("36: GAIN of 1", x.awned(1, 1), 110);
        Check.refused("36: what", NO_ARGUMENT, () -> x.awned(0, 2));
        Check.refused("36: STALL", NO_STALL, () -> x.awned(2, 2));
        ShadeLedger y = Check.of("field 2 2;stall 0 0 0;awning 0 3;");
        y.awned(0, 0);
        Check.same("36: nothing stays changed", y.stall(0, 3), 3);
        Check.same("37: twenty MINUTES by rate 2", x.lights(), 40);
        Check.same("37: none", Check.of(SQUARE).lights(), 0);
        Check.same("37: on the first one", Check.of("stall 0 0 0;stall 1 0 10;lantern 1;dusk 5;sun 0 0 1 1;fold 9;")
                .lights(), 4);
        Check.same("38: HOUR 2", x.hour(0), 2);
        Check.same("38: 60, 80 and 20", x.hour(1), 160);
        Check.same("38: of alike ones the first", Check.of(SQUARE + "fold 120;").hour(0), 0);
        Check.refused("38: what", NO_ARGUMENT, () -> x.hour(-1));
    }

    private static void outAndSuns() {
        ShadeLedger row = Check.of(ROW);
        Check.same("40: now", row.due(), 60);
        Check.same("40: without 1", row.out(1), 20);
        Check.same("40: without 0", row.out(0), 20);
        row.tall(1, 21);
        Check.same("40: hidden", row.due(), 40);
        Check.same("40: nobody hides it", row.out(1), 20);
        Check.same("40: it is still there", row.due(), 40);
        Check.refused("40: STALL", NO_STALL, () -> row.out(3));
        ShadeLedger covered = Check.of("field 3 3;stall 1 0 0;awning 0 1;stall 1 1 0;stall 0 1 10;sun 0 2 1 1;fold 4;");
        Check.same("40: covered", covered.due(), 0);
        Check.same("40: its awning is gone, too", covered.out(0), 4);
        Check.same("41: sun 100 brings 170", Check.of(TWO).suns(), 100);
        Check.same("41: of alike ones the first", row.suns(), 0);
        Check.same("41: nothing is due", covered.suns(), -1);
        Check.same("41: told in any order", Check.of("stall 0 0 10;stall 1 0 0;sun 90 2 1 1;sun 5 2 1 1;sun 9 1 1 1;")
                .suns(), 90);
    }

    private static void imagesKept() {
        ShadeLedger x = Check.of(TWO);
        x.cold(0, 7);
        Check.same("42: one", x.image(), 1);
        x.days(5);
        x.winter(1);
        x.move(0, 3, 1);
        x.tall(0, 33);
        x.cold(0, 9);
        Check.same("42: two", x.image(), 2);
        Check.same("42: three", x.image(), 3);
        Check.same("42: there are 3", x.image(), -1);
        Check.same("45: IMAGES", x.count(0), 3);
        x.tall(0, 1);
        x.cold(0, 8);
        Check.same("43: the latest", x.restore(), 2);
        Check.same("43: as then", x.stall(0, 2), 33);
        Check.same("43: COLD as then", x.cold(0, 1), 9);
        x.play();
        int rounds = x.rounds();
        Check.same("43: the second", x.restore(), 1);
        Check.same("43: the first", x.restore(), 0);
        Check.same("43: DAY, WINTER", x.told(3) * 10 + x.told(4), 0);
        Check.same("43: CELL, height", x.stall(0, 0) * 1000 + x.stall(0, 1) * 100 + x.stall(0, 2), 10);
        Check.same("43: COLD", x.cold(0, 7), 7);
        Check.same("43: rounds are of the latest PLAY", x.rounds(), rounds);
        Check.same("43: there is none", x.restore(), -1);
        Check.same("45: none", x.count(0), 0);
    }

    private static void refusals() {
        ShadeLedger x = Check.of(TWO);
        x.image();
        Check.refused("44: a STALL", NO_STALL, () -> x.shades(5, 5, -1));
        Check.refused("44: an argument", NO_ARGUMENT, () -> x.shades(0, 0, -1));
        Check.refused("44: another", NO_ARGUMENT, () -> x.market(1));
        Check.same("44: STALLS", x.status(0), 1);
        Check.same("44: arguments", x.status(1), 2);
        x.restore();
        Check.tell(x, "x");
        Check.tell(x, "");
        Check.same("44: no IMAGE, no MARKET changes it", x.status(0) * 10 + x.status(1), 12);
        Check.same("44: NONE", x.status(2) + x.status(-1), -2);
        Check.same("45: NONE", x.count(2) + x.count(-1), -2);
        Check.same("44: these are no refusals", x.status(0) * 10 + x.status(1), 12);
    }

    /** One MINUTE, due 1, by the farthest sun: a height of 10 reaches nine CELLS less one. */
    private static void oneMinute() {
        ShadeLedger x = Check.of("field 9 2;stall 0 0 10;stall 8 0 0;sun 77 2 1 8;fold 78;");
        Check.same("15: due 1", x.due(), 1);
        Check.same("11: CHILL", x.chill(1), 1);
        Check.same("33: whose", x.whose(1), 0);
        Check.same("34: harmless", x.harmless(0), 9);
        Check.same("41: sun", x.suns(), 77);
        Check.same("20: set", x.set(1, 0), 0);
        Check.same("20: set of two", x.set(3, 1), 10);
        Check.same("35: folded", x.folded(0), 77);
        Check.same("16: first", x.first(0), 77);
        ShadeLedger nine = Check.of("field 9 2;stall 0 0 8;stall 7 0 0;sun 77 2 1 9;fold 78;");
        Check.same("10: nine CELLS for each 10", nine.minutes(0, 1), 1);
        Check.same("11: CHILL", nine.chill(1), 1);
        nine.tall(0, 7);
        Check.same("10: 63 by 10", nine.minutes(0, 1), 0);
    }

    private static void all() {
        marketAnew();
        toldAndStall();
        lengthOfShadow();
        whoShadesWhom();
        steps();
        awnings();
        minutesAndChill();
        debts();
        fewestPayments();
        firstMinute();
        changes();
        setAnew();
        exchanges();
        onePoleMore();
        wishes();
        plays();
        coldFish();
        daysGoBy();
        cloudsDrawn();
        led();
        harmlessHeights();
        foldedEarly();
        awnedLightsHours();
        outAndSuns();
        oneMinute();
        imagesKept();
        refusals();
    }

    public static void main(String[] arguments) {
        newObject();
        Check.newAndUsed(PromisesTest::all);
        Check.finish("PromisesTest");
    }
}
