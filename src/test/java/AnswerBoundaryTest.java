import java.util.ArrayList;
import java.util.List;

/** Promises 1 to 45 and terms, parts 2 to 4: what is answered when all is empty, full, least, greatest or alike. */
public final class AnswerBoundaryTest {
    /** 0 shades 1 all day. */
    private static final String LINE = "field 9 2;stall 0 0 10;stall 1 0 0;sun 0 2 1 1;";
    /** No free CELL: 0 shades 1, 2 shades 3. */
    private static final String FULL = "field 2 2;stall 0 0 10;stall 1 0 10;stall 0 1 10;stall 1 1 10;sun 0 2 1 1;"
            + "fold 10;";

    private AnswerBoundaryTest() {
    }

    /** Eight alike in a row, each shades all to the right of it, at 18 a MINUTE: nothing can be dearer for a pair. */
    private static String dearest() {
        StringBuilder text = new StringBuilder("field 9 2;");
        for (int i = 0; i < 8; i++) {
            text.append("stall ").append(i).append(" 0 40;lantern ").append(i).append(';');
        }
        return text + "sun 0 2 1 9;rate 0 9;dusk 0;";
    }

    private static void withoutClauses() {
        ShadeLedger x = new ShadeLedger();
        for (int i = 0; i < 2; i++) {
            Check.same("1: no STALL: due", x.due() + x.lights(), 0);
            Check.same("14: nobody owes", x.payments(0) + x.payments(1440), 0);
            Check.same("16: nobody is in SHADE", x.first(0) + x.first(1439), -2);
            Check.same("21: no two", x.exchange(), -1);
            Check.same("22: everywhere free", x.pole(0, 0) + x.pole(60, 0) + x.pole(0, 1) + x.pole(60, 1), 0);
            Check.same("24: none changed in a whole round", x.play() * 10 + x.rounds(), 11);
            Check.same("27: nothing is told: 24 CELLS by 60 heights", x.what(0) * 1000 + x.what(1), 1440100);
            Check.same("29: never", x.when(0), -1);
            Check.same("30: none due, no cloud", x.clouds(-1, 0) + x.clouds(-1, 1), 0);
            Check.same("31: none due", x.span(-1, 60, 0) + x.span(-1, 60, 1), 0);
            Check.same("35: the fold told", x.folded(0), 1440);
            Check.same("38: HOUR 0", x.hour(0) + x.hour(1), 0);
            Check.same("39: never", x.improved(0) + x.improved(1), 0);
            Check.same("41: nothing is due", x.suns(), -1);
            Check.same("43: no IMAGE", x.restore(), -1);
            x.market(0);
        }
        Check.same("25: 0 behind market()", x.rounds(), 0);
    }

    private static void greatest() {
        ShadeLedger x = Check.of(dearest());
        Check.same("9: seven of eight", x.under(7, 1439) * 1000 + x.under(0, 0), 127000);
        Check.same("10: all MINUTES", x.minutes(0, 7) * 10 + x.minutes(7, 0), 14400);
        Check.same("11: a MINUTE counts once", x.chill(7) * 10 + x.chill(0), 14400);
        Check.same("12: 1,440 by 18", x.owes(0, 7, 1440), 25920);
        Check.same("12: the first MINUTE", x.owes(0, 7, 1), 18);
        Check.same("13: owes seven", x.net(0, 1440), -181440);
        Check.same("13: is owed by seven", x.net(7, 1440), 181440);
        Check.same("14: -7 -5 -3 -1 1 3 5 7", x.payments(1440), 4);
        Check.same("15: 28 by 25,920", x.due(), 725760);
        Check.same("20: two in the other row", x.set(3, 0), 16 * 25920);
        Check.same("20: there", x.set(3, 1), 1011);
        Check.same("21: alike, so none is less", x.exchange(), -1);
        Check.same("22: there are 8", x.pole(0, 0) + x.pole(60, 1), -2);
        Check.same("23: LENGTH 0 by 1", x.wish(0), 1);
        Check.same("23: it shades nobody", x.wish(7), 40);
        Check.same("29: above 99,999", x.when(99999), 0);
        Check.same("32: alone", x.led(1, 0) * 10 + x.led(2, 0), 14400);
        Check.same("33: the first, nobody, nobody", x.whose(1) * 100 + x.whose(2) * 10 + x.whose(0), -11);
        Check.same("34: LENGTH 0 by 1", x.harmless(0), 1);
        Check.same("34: nobody is there", x.harmless(7), 60);
        Check.same("35: 198 by 504 is 99,792", x.folded(99999), 198);
        Check.same("35: none", x.folded(503), 0);
        Check.same("35: one", x.folded(504), 1);
        Check.same("36: GAIN", x.awned(0, 1), -181440);
        Check.same("37: the half", x.lights(), 362880);
        Check.same("38: of alike ones the first", x.hour(0) * 100000 + x.hour(1), 30240);
        Check.same("39: never", x.improved(0) * 1000000 + x.improved(1), 725760);
        Check.same("40: 21 by 25,920", x.out(0), 544320);
        Check.same("40: 21 by 25,920", x.out(7), 544320);
        Check.same("41: the one at 0", x.suns(), 0);
    }

    /** A height of 1 throws nothing by 9 for each 10, one of 2 a CELL far; in WINTER 1 is enough. */
    private static void eightDirections() {
        for (int to = 0; to < 9; to++) {
            for (int sun = 0; sun < 9 && to != 4; sun++) {
                ShadeLedger x = Check.of("field 9 9;stall 4 4 2;stall " + (3 + to % 3) + " " + (3 + to / 3) + " 0;sun 0 "
                        + sun % 3 + " " + sun / 3 + " 9;");
                String what = "directions " + to + " " + sun;
                oneDirection(what, x, to == sun);
                x.tall(0, 1);
                oneDirection(what + ", 1 tall", x, false);
                x.winter(1);
                oneDirection(what + ", WINTER", x, to == sun);
                x.tall(0, 0);
                oneDirection(what + ", 0 tall", x, false);
            }
        }
    }

    private static void oneDirection(String what, ShadeLedger x, boolean is) {
        int all = is ? 1440 : 0;
        Check.same("8: " + what, x.shades(0, 1, 720), is);
        Check.same("9: " + what, x.under(1, 720), is ? 1 : 0);
        Check.same("10: " + what, x.minutes(0, 1) * 10000 + x.minutes(1, 0), all * 10000);
        Check.same("11: " + what, x.chill(1) * 10000 + x.chill(0), all * 10000);
        Check.same("12: " + what, x.owes(0, 1, 1440), all);
        Check.same("15: " + what, x.due(), all);
        Check.same("16: " + what, x.first(720), is ? 720 : -1);
        Check.same("32: " + what, x.led(1, 0), all);
        Check.same("33: " + what, x.whose(1), is ? 0 : -1);
        Check.same("41: " + what, x.suns(), is ? 0 : -1);
    }

    private static void payments() {
        ShadeLedger x = Check.of("field 9 2;stall 0 0 40;stall 1 0 0;stall 2 0 0;stall 3 0 0;stall 4 0 0;stall 5 0 0;"
                + "stall 6 0 0;stall 7 0 0;sun 0 2 1 9;");
        Check.same("14: one to seven", x.payments(1440), 7);
        Check.same("14: up to MINUTE 0", x.payments(0), 0);
        Check.same("14: up to MINUTE 1", x.payments(1), 7);
        x.tall(0, 0);
        Check.same("14: NETS are all 0", x.payments(1440), 0);
        ShadeLedger two = Check.of("field 3 2;stall 0 0 10;stall 2 0 10;stall 1 0 0;sun 0 2 1 1;sun 1 0 1 1;");
        Check.same("14: -1 -1 2", two.payments(2), 2);
        Check.same("14: -1 0 1", two.payments(1), 1);
    }

    private static void firstMinute() {
        ShadeLedger last = Check.of("field 9 2;stall 0 0 10;stall 1 0 0;sun 1439 2 1 1;");
        Check.same("16: the last MINUTE", last.first(0) * 10000 + last.first(1439), 14391439);
        ShadeLedger first = Check.of("field 9 2;stall 0 0 10;stall 1 0 0;sun 0 2 1 1;fold 1;");
        Check.same("16: the MINUTE itself", first.first(0), 0);
        Check.same("16: none in this DAY", first.first(1), -1);
        ShadeLedger gap = Check.of("field 9 2;stall 0 0 10;stall 1 0 0;sun 10 2 1 1;sun 20 1 1 1;sun 30 2 1 1;fold 40;");
        int[][] cases = {{9, 10}, {10, 10}, {19, 19}, {20, 30}, {29, 30}, {39, 39}, {40, -1}};
        for (int[] c : cases) {
            Check.same("16: from " + c[0], gap.first(c[0]), c[1]);
        }
    }

    private static void moves() {
        ShadeLedger full = Check.of(FULL);
        for (int cell = 0; cell < 4; cell++) {
            Check.same("18: no CELL is free", full.move(0, cell % 2, cell / 2), 0);
        }
        Check.same("18: it stays", full.stall(0, 0) * 10 + full.stall(0, 1), 0);
        ShadeLedger x = Check.of("field 9 9;stall 0 0 10;stall 8 0 0;");
        Check.same("18: its own CELL is not free", x.move(0, 0, 0), 0);
        Check.same("18: taken", x.move(0, 8, 0), 0);
        Check.same("18: the last CELL", x.move(0, 8, 8), 1);
        Check.same("18: what it left is free", x.move(1, 0, 0), 1);
        Check.same("18: there", x.stall(0, 0) * 1000 + x.stall(0, 1) * 100 + x.stall(1, 0) * 10 + x.stall(1, 1), 8800);
        Check.same("19: another height, the same", x.tall(0, 10) * 100 + x.tall(0, 60), 1010);
        Check.same("19: above what a text can tell", x.tall(0, 0), 60);
        Check.same("17: what it was", x.winter(0) * 100 + x.winter(1) * 10 + x.winter(1), 1);
    }

    private static void setAnew() {
        ShadeLedger full = Check.of(FULL);
        Check.same("20: no other CELL than its own", full.set(1, 1) * 100 + full.set(8, 1), 11);
        Check.same("20: all DUE as it is", full.set(1, 0), 20);
        Check.same("20: two, of alike ways the first", full.set(3, 1), 1);
        Check.same("20: nothing stays changed", full.stall(0, 0) * 10 + full.stall(1, 0), 1);
        Check.same("20: the last two CELLS, alike, so the first", full.set(12, 1), 1011);
        ShadeLedger low = Check.of("field 2 2;stall 1 0 0;stall 0 0 10;stall 1 1 0;stall 0 1 0;sun 0 2 1 1;fold 10;");
        Check.same("20: they change CELLS", low.set(3, 1) * 100 + low.set(3, 0), 100);
        ShadeLedger alone = Check.of("field 9 9;stall 8 8 40;sun 0 0 0 9;");
        Check.same("20: alone, the first CELL", alone.set(1, 0) * 100 + alone.set(1, 1), 0);
        ShadeLedger end = Check.of("field 2 2;stall 0 0 40;stall 1 0 0;stall 0 1 0;sun 0 2 1 9;sun 5 1 2 9;fold 10;");
        Check.same("20: the last CELL", end.set(1, 1) * 100 + end.set(1, 0), 1100);
    }

    private static void exchanges() {
        Check.same("21: one STALL", Check.of("stall 0 0 40;sun 0 2 1 9;").exchange(), -1);
        ShadeLedger two = Check.of("field 2 2;stall 0 0 10;stall 1 0 9;sun 0 2 1 1;");
        Check.same("21: 0 and 1", two.exchange(), 1);
        Check.same("39: once", two.improved(0) * 10 + two.improved(1), 10);
        two.tall(1, 10);
        Check.same("21: not less than now", two.exchange(), -1);
        Check.same("39: never, as now", two.improved(0) * 10000 + two.improved(1), 1440);
        ShadeLedger last = Check.of("field 2 4;stall 0 0 0;stall 1 0 0;stall 0 1 0;stall 1 1 0;stall 0 2 0;stall 1 2 0;"
                + "stall 0 3 10;stall 1 3 0;sun 0 2 1 1;fold 1;");
        Check.same("21: of these the first", last.exchange(), 16);
        Check.same("39: once", last.improved(0) * 10 + last.improved(1), 10);
        ShadeLedger seventh = Check.of("field 9 2;stall 1 0 9;stall 2 0 9;stall 3 0 9;stall 4 0 9;stall 5 0 9;"
                + "stall 6 0 9;stall 7 0 10;stall 8 0 9;sun 0 2 1 1;fold 1;");
        Check.same("21: the last two", seventh.exchange() * 10 + seventh.due(), 671);
        Check.same("39: the last two", seventh.improved(0) * 10 + seventh.improved(1), 10);
        ShadeLedger twice = Check.of("field 2 4;stall 0 0 10;stall 1 0 0;stall 0 1 10;stall 1 1 0;sun 0 2 1 1;fold 1;");
        Check.same("21: one of two is left", twice.exchange() * 10 + twice.due(), 12);
        Check.same("39: 0 and 1, then 2 and 3", twice.improved(0) * 10 + twice.improved(1), 20);
        ShadeLedger pair = Check.of("field 9 2;stall 0 0 10;stall 8 0 0;sun 0 2 1 8;sun 1 0 1 1;fold 3;");
        Check.same("21: less by the other sun, or not", pair.exchange() * 10 + pair.due(), 11);
        pair.move(1, 1, 0);
        Check.same("21: 2 is not less than 1", pair.exchange() * 10 + pair.due(), -9);
    }

    private static void poles() {
        ShadeLedger full = Check.of(FULL);
        Check.same("22: no CELL is free", full.pole(0, 0) + full.pole(0, 1) + full.pole(60, 0) + full.pole(60, 1), -4);
        ShadeLedger one = Check.of("field 2 2;stall 0 0 10;stall 1 0 10;stall 0 1 10;sun 0 2 1 1;fold 10;");
        Check.same("22: the only CELL, though more is due", one.pole(0, 0) * 100 + one.pole(0, 1), 1120);
        ShadeLedger hides = Check.of("field 4 2;stall 0 0 20;stall 2 0 0;sun 0 2 1 2;fold 5;");
        Check.same("22: of alike ones the first", hides.pole(0, 0), 10);
        ShadeLedger last = Check.of("field 2 2;stall 0 0 40;stall 1 0 40;stall 0 1 0;sun 0 1 2 9;");
        Check.same("22: 60 tall", last.pole(60, 0), 11);
        StringBuilder seven = new StringBuilder();
        for (int i = 0; i < 7; i++) {
            seven.append("stall ").append(i % 6).append(' ').append(i / 6).append(" 1;");
        }
        Check.same("22: 7 STALLS", Check.of(seven.toString()).pole(60, 0), 11);
        Check.same("22: 8 STALLS", Check.of(seven + "stall 5 3 1;").pole(60, 0), -1);
    }

    private static void wishes() {
        ShadeLedger x = Check.of(LINE + "grow 0 0 60;grow 1 5 0;");
        Check.same("23: to L 60, though N is 0: 9 without shade", x.wish(0), 9);
        Check.same("23: L is 0, its own is 0", x.wish(1), 0);
        x.tall(1, 60);
        Check.same("23: L is 0, to its own", x.wish(1), 60);
        ShadeLedger nobody = Check.of("stall 0 0 0;grow 0 0 60;stall 1 0 40;grow 1 0 1;");
        Check.same("23: the greatest of all", nobody.wish(0), 60);
        Check.same("23: L 1, though it is taller", nobody.wish(1), 1);
        ShadeLedger alike = Check.of("field 2 2;stall 0 0 0;grow 0 1 10;stall 1 0 0;sun 0 2 1 1;fold 1;");
        Check.same("23: of alike ones the least: 9, or 10 less 1", alike.wish(0), 9);
        ShadeLedger more = Check.of("field 2 2;stall 0 0 0;grow 0 1 11;stall 1 0 0;sun 0 2 1 1;fold 1;");
        Check.same("23: 11 less 1 is more than 9", more.wish(0), 11);
        ShadeLedger least = Check.of("field 3 2;stall 0 0 20;stall 1 0 0;grow 1 1 60;stall 2 0 0;sun 0 2 1 9;");
        least.winter(1);
        Check.same("23: 0 and 1,440 is more than 60 and 0", least.wish(1), 0);
    }

    private static void plays() {
        ShadeLedger x = Check.of("field 2 2;stall 0 0 0;grow 0 1 60;");
        Check.same("25: 0 without", x.rounds(), 0);
        Check.same("24: REST", x.play() * 100 + x.stall(0, 2), 160);
        Check.same("25: with the last one", x.rounds(), 2);
        Check.same("24: at rest already", x.play() * 10 + x.rounds(), 11);
        Check.tell(x, "x");
        Check.same("25: a FAULT leaves it", x.rounds(), 1);
        for (int bit = 1; bit <= 32; bit *= 2) {
            ShadeLedger two = Check.of("stall 0 0 1;stall 1 0 0;grow 1 1 " + bit + ";");
            Check.same("24: other heights are no ring: 0 becomes " + bit, two.play() * 10 + two.rounds(), 12);
        }
        Check.tell(x, "");
        Check.same("25: 0 behind market()", x.rounds(), 0);
    }

    /** Its heights run on for more than 20 rounds: played here with wish() and tall(), then by play(). */
    private static void twentyRounds() {
        String text = "field 7 2;stall 1 1 34;stall 2 1 40;stall 3 1 16;stall 0 1 3;stall 4 1 16;stall 5 1 8;grow 1 1 51;"
                + "grow 2 1 52;sun 11 2 1 1;sun 3 0 1 4;fold 21;lantern 3;";
        ShadeLedger by = Check.of(text);
        List<String> seen = new ArrayList<>(List.of(heights(by)));
        for (int round = 1; round <= 20; round++) {
            for (int i = 0; i < 6; i++) {
                by.tall(i, by.wish(i));
            }
            String now = heights(by);
            Check.same("24: heights are new behind round " + round, seen.contains(now), false);
            seen.add(now);
        }
        ShadeLedger x = Check.of(text);
        Check.same("24: 20 rounds are over", x.play() * 100 + x.rounds(), 20);
        Check.same("24: heights are as they are then", heights(x), heights(by));
    }

    private static String heights(ShadeLedger x) {
        StringBuilder all = new StringBuilder();
        for (int i = 0; i < 6; i++) {
            all.append(x.stall(i, 2)).append(' ');
        }
        return all.toString();
    }

    private static void coldFish() {
        ShadeLedger full = Check.of(FULL);
        Check.same("27: no CELL is free", full.what(0) * 10 + full.what(1), -1);
        ShadeLedger x = Check.of("field 9 2;stall 6 0 0;sun 0 2 1 1;");
        Check.same("26: nothing, as at first", x.cold(0, 1440), -1);
        Check.same("27: 1 11 21 31 41 51 heights", x.what(0), 156);
        Check.same("27: the first CELL, 60 tall alone", x.what(1), 6000);
        Check.same("26: what it was", x.cold(0, 1439), 1440);
        Check.same("27: just so", x.what(0) * 10 + x.what(1), -1);
        Check.same("26: what it was", x.cold(0, 0), 1439);
        Check.same("27: all others: 17 by 60 less 156", x.what(0), 864);
        Check.same("27: 1 tall", x.what(1), 100);
        Check.same("26: what it was", x.cold(0, -1), 0);
        Check.same("27: all", x.what(0) * 1000 + x.what(1), 1020100);
        x.cold(0, 1440);
        x.winter(1);
        Check.same("27: in WINTER from 30 on at the first", x.what(0) * 10000 + x.what(1), 2613000);
        ShadeLedger two = Check.of("field 3 2;stall 1 0 0;stall 2 0 0;sun 0 2 1 1;sun 100 2 1 2;fold 200;");
        two.cold(0, 200);
        Check.same("27: 10 and taller", two.what(0) * 10000 + two.what(1), 511000);
        two.cold(1, 100);
        Check.same("27: all told ones: from 10 to 19", two.what(0) * 10000 + two.what(1), 101000);
        two.cold(0, 100);
        two.cold(1, 0);
        Check.same("27: from 5 to 9", two.what(0) * 10000 + two.what(1), 50500);
        ShadeLedger before = Check.of("field 3 2;stall 2 0 0;stall 1 0 5;sun 0 2 1 1;sun 10 2 1 2;fold 20;");
        before.cold(0, 10);
        Check.same("27: more than by the market", before.what(0) * 10000 + before.what(1), 412000);
        before.cold(0, 0);
        Check.same("27: no more than by the market", before.what(0) * 10000 + before.what(1), 1990100);
    }

    private static void whereItStood() {
        ShadeLedger below = Check.of("field 3 3;stall 1 0 0;sun 0 1 0 1;");
        below.cold(0, 1440);
        Check.same("27: CELL 1 1, 10 tall", below.what(0) * 10000 + below.what(1), 921011);
        ShadeLedger last = Check.of("field 9 9;stall 7 7 0;sun 0 0 0 1;");
        last.cold(0, 1440);
        Check.same("27: the last CELL", last.what(0) * 10000 + last.what(1), 511088);
        StringBuilder row = new StringBuilder("field 9 2;");
        for (int i = 0; i < 8; i++) {
            row.append("stall ").append(i).append(" 0 0;");
        }
        ShadeLedger eight = Check.of(row + "sun 0 0 1 1;");
        eight.cold(7, 1440);
        eight.cold(6, 0);
        String state = Check.state(eight);
        Check.same("27: with 8 STALLS, too: from 10 to 19", eight.what(0) * 10000 + eight.what(1), 101008);
        eight.cold(6, 1440);
        Check.same("27: with 8 STALLS, too: from 20 on", eight.what(0) * 10000 + eight.what(1), 412008);
        eight.cold(6, 0);
        Check.same("27: nothing stays changed", Check.state(eight), state);
    }

    private static void daysGoBy() {
        ShadeLedger x = Check.of("field 9 2;stall 0 0 0;stall 6 0 5;grow 0 1 60;grow 1 5 6;sun 0 2 1 1;");
        Check.same("29: 60 DAYS later", x.when(1439), 60);
        Check.same("29: above, not as much", x.when(1440), -1);
        Check.same("28: one DAY", x.days(1) * 10000 + x.stall(0, 2) * 100 + x.stall(1, 2), 10106);
        Check.same("29: 59 later", x.when(0), 59);
        Check.same("28: 99 DAYS", x.days(99) * 10000 + x.stall(0, 2) * 100 + x.stall(1, 2), 1006006);
        Check.same("29: today", x.when(0), 0);
        x.tall(1, 7);
        x.days(1);
        Check.same("28: what is taller stays", x.stall(1, 2), 7);
        for (int i = 0; i < 9; i++) {
            x.days(99);
        }
        Check.same("28: 992", x.told(3), 992);
        x.tall(0, 0);
        Check.same("28: the last but none", x.days(7) * 100 + x.stall(0, 2), 99907);
        Check.same("28: no further", x.days(99) * 100 + x.stall(0, 2), 99907);
        ShadeLedger over = Check.of("field 9 2;stall 0 0 0;grow 0 1 60;");
        for (int i = 0; i < 10; i++) {
            over.days(99);
        }
        over.tall(0, 0);
        Check.same("28: 9 of 10 go by", over.days(10) * 100 + over.stall(0, 2), 99909);
        ShadeLedger none = Check.of("stall 0 0 7;grow 0 0 60;stall 1 0 7;grow 1 5 0;stall 2 0 7;");
        none.days(99);
        Check.same("28: N 0, L 0, and without", none.stall(0, 2) * 100 + none.stall(1, 2) * 10 + none.stall(2, 2), 777);
    }

    private static int drawn(int seed, int below) {
        long now = seed & 0xFFFFFFFFL;
        int hours = 0;
        for (int i = 0; i < 24; i++) {
            now = (now * 1103515245L + 12345) & 0xFFFFFFFFL;
            hours |= (now >> 16) % 8 < below ? 1 << i : 0;
        }
        return hours;
    }

    private static int dueBy(int seed, int below) {
        return 1440 - 60 * Integer.bitCount(drawn(seed, below));
    }

    private static void cloudsAndSpans() {
        Check.same("31: asked first of all", Check.of(LINE + "cloud 2;").span(1, 1, 0), dueBy(1, 2));
        for (int c = 0; c <= 8; c++) {
            ShadeLedger x = Check.of(LINE + "cloud " + c + ";");
            for (int seed : new int[] {0, 1, -1, Integer.MIN_VALUE, Integer.MAX_VALUE}) {
                Check.same("30: SEED " + seed + ", C " + c, x.clouds(seed, 1), drawn(seed, c));
                Check.same("30: due in the other HOURS", x.clouds(seed, 0), dueBy(seed, c));
            }
            for (int seed = -62; seed <= 1; seed += 3) {
                spanOf(x, seed, c);
                spanOf(x, Integer.MIN_VALUE + seed, c);
            }
        }
        Check.same("30: C 0", Check.of(LINE).clouds(1, 1), 0);
        ShadeLedger all = Check.of(LINE + "cloud 8;");
        Check.same("30: C 8", all.clouds(1, 1) + all.clouds(1, 0), 0xFFFFFF);
    }

    private static void spanOf(ShadeLedger x, int seed, int below) {
        int least = 1440;
        int most = 0;
        for (int i = 0; i < 60; i++) {
            least = Math.min(least, dueBy(seed + i, below));
            most = Math.max(most, dueBy(seed + i, below));
            if (i < 2 || i > 57) {
                Check.same("31: the least of " + (i + 1) + " from " + seed, x.span(seed, i + 1, 0), least);
                Check.same("31: the greatest of " + (i + 1) + " from " + seed, x.span(seed, i + 1, 1), most);
            }
        }
    }

    private static void ledAndHarmless() {
        ShadeLedger x = Check.of("field 3 2;stall 0 0 10;stall 2 0 10;stall 1 0 0;sun 0 0 1 1;sun 720 2 1 1;");
        Check.same("32: the half", x.led(2, 0) * 1000 + x.led(2, 1), 720720);
        Check.same("33: of alike ones the first", x.whose(2), 0);
        x.tall(0, 9);
        Check.same("32: no MINUTE", x.led(2, 0), 0);
        Check.same("33: the other one", x.whose(2), 1);
        x.tall(1, 9);
        Check.same("33: no MINUTE is LED", x.whose(2), -1);
        ShadeLedger one = Check.of("stall 0 0 40;sun 0 2 1 9;");
        Check.same("33: alone", one.whose(0), -1);
        Check.same("34: alone", one.harmless(0), 60);
        ShadeLedger near = Check.of("stall 0 0 40;stall 1 0 0;sun 0 2 1 9;");
        Check.same("34: 1 by 9 is 0", near.harmless(0), 1);
        near.winter(1);
        Check.same("34: 1 by 18 is 1: only 0", near.harmless(0), 0);
        ShadeLedger minute = Check.of("stall 0 0 40;stall 1 0 0;rate 0 0;sun 0 2 1 1;fold 1;");
        Check.same("34: one MINUTE, though nothing is due", minute.harmless(0), 9);
        ShadeLedger back = Check.of("field 2 2;stall 0 0 0;stall 1 0 40;sun 0 0 1 1;");
        Check.same("34: on STALL 0", back.harmless(1), 9);
        ShadeLedger far = Check.of("field 9 2;stall 0 0 0;stall 6 0 0;sun 0 2 1 1;");
        Check.same("34: 59", far.harmless(0), 59);
    }

    private static void foldedEarly() {
        ShadeLedger x = Check.of(LINE);
        int[][] cases = {{0, 0}, {1, 1}, {1439, 1439}, {1440, 1440}, {99999, 1440}};
        for (int[] c : cases) {
            Check.same("35: no more than " + c[0], x.folded(c[0]), c[1]);
        }
        Check.same("35: to the one told", Check.of(LINE + "fold 7;").folded(99999), 7);
        Check.same("35: to the one told", Check.of(LINE + "fold 7;").folded(6), 6);
        Check.same("35: told 0", Check.of(LINE + "fold 0;").folded(0), 0);
        Check.same("35: the greatest, MINUTES that cost nothing, too", Check.of(LINE + "rate 5 0;rate 9 1;").folded(5), 9);
    }

    private static void awnedAndHours() {
        for (int n = 0; n <= 3; n++) {
            ShadeLedger x = Check.of("field 2 9;stall 0 0 0;awning 0 " + n + ";stall 1 0 10;sun 0 0 1 1;fold 9;");
            Check.same("36: of alike ones the least", x.awned(0, 0) * 10 + x.awned(0, 1), 9);
            Check.same("36: nothing stays changed", x.stall(0, 3), n);
        }
        Check.same("38: the last HOUR", Check.of("stall 0 0 10;stall 1 0 0;sun 1439 2 1 1;").hour(0), 23);
        Check.same("38: the last of HOUR 0", Check.of("stall 0 0 10;stall 1 0 0;sun 59 2 1 1;fold 60;").hour(0), 0);
        Check.same("38: the first of HOUR 1", Check.of("stall 0 0 10;stall 1 0 0;sun 60 2 1 1;fold 61;").hour(0), 1);
        Check.same("38: how much", Check.of("stall 0 0 10;stall 1 0 0;sun 59 2 1 1;").hour(1), 60);
        ShadeLedger none = Check.of("stall 0 0 10;");
        Check.same("38: nothing is due", none.hour(0) + none.hour(1), 0);
    }

    private static void lights() {
        ShadeLedger x = Check.of("field 9 2;stall 0 0 10;stall 1 0 10;stall 5 1 10;lantern 0;lantern 1;lantern 2;sun 0 2 1 1;"
                + "dusk 1430;");
        Check.same("37: of who shades nobody nothing", x.lights(), 10);
        x.tall(0, 9);
        Check.same("37: nothing is due", x.lights(), 0);
    }

    /** What a text does not tell is 0, whatever was told ahead of it. */
    private static void stallsWithout() {
        ShadeLedger x = Check.of("stall 5 3 0;");
        int[] want = {5, 3, 0, 0, 0, 0, 0};
        for (int i = 0; i < want.length; i++) {
            Check.same("6: without: " + i, x.stall(0, i), want[i]);
        }
        int[] told = {6, 4, 1, 0, 0, 1440, 1440, 0};
        for (int i = 0; i < told.length; i++) {
            Check.same("5: without: " + i, x.told(i), told[i]);
        }
        Check.same("26: nothing, as at first", x.cold(0, -1), -1);
        Check.same("7: before any sun none", x.length(0, 1439), 0);
        Check.same("45: no IMAGES", x.count(0) * 10 + x.count(1), 0);
    }

    private static void outAndSuns() {
        ShadeLedger one = Check.of("stall 0 0 10;sun 0 2 1 1;");
        Check.same("40: nobody is left", one.out(0), 0);
        ShadeLedger two = Check.of(LINE);
        Check.same("40: one is left", two.out(0) + two.out(1), 0);
        Check.same("40: both are there", two.due(), 1440);
        Check.same("41: at 0", two.suns(), 0);
        Check.same("41: at 1,439", Check.of("stall 0 0 10;stall 1 0 0;sun 0 1 1 1;sun 1439 2 1 1;").suns(), 1439);
        Check.same("41: folded ahead of it", Check.of("stall 0 0 10;stall 1 0 0;sun 1439 2 1 1;fold 1439;").suns(), -1);
        Check.same("41: no sun", Check.of("stall 0 0 10;stall 1 0 0;").suns(), -1);
        Check.same("41: of alike ones the first", Check.of(LINE + "sun 720 2 1 1;").suns(), 0);
        Check.same("41: one MINUTE more", Check.of(LINE + "sun 719 2 1 1;").suns(), 719);
    }

    private static void images() {
        ShadeLedger x = Check.of(LINE);
        Check.same("43: there is none", x.restore() * 10 + x.count(0), -10);
        for (int i = 1; i <= 3; i++) {
            x.tall(0, i);
            Check.same("42: how many there are", x.image() * 10 + x.count(0), 11 * i);
        }
        x.tall(0, 4);
        Check.same("42: there are 3", x.image() * 10 + x.count(0), -7);
        Check.same("42: nothing is done", x.stall(0, 2), 4);
        for (int i = 2; i >= 0; i--) {
            Check.same("43: how many are left", x.restore() * 10 + x.count(0), 11 * i);
            Check.same("43: as in the latest", x.stall(0, 2), i + 1);
        }
        Check.same("43: there is none any more", x.restore() * 10 + x.count(0), -10);
        Check.same("43: nothing is done", x.stall(0, 2), 1);
        Check.same("42: room again", x.image(), 1);
        Check.tell(x, LINE);
        Check.same("3: no IMAGES", x.restore() * 10 + x.count(0), -10);
        Check.feed(x, "fold 5;");
        x.image();
        Check.feed(x, "fold 5;");
        x.restore();
        Check.same("43: no IMAGE keeps the TAPE", x.count(1), 40);
    }

    /** Three IMAGES that differ in all that an IMAGE keeps. */
    private static void allOfAnImage() {
        ShadeLedger x = Check.of("field 9 9;stall 0 0 10;stall 1 0 0;grow 1 1 60;");
        List<String> states = new ArrayList<>();
        for (int i = 1; i <= 3; i++) {
            x.days(i);
            x.winter(i % 2);
            x.move(0, 2 * i, 8 - i);
            x.move(1, 8 - i, 0);
            x.tall(0, 60 - i);
            x.cold(0, 100 * i);
            x.cold(1, i - 2);
            states.add(Check.state(x));
            x.image();
        }
        x.days(99);
        x.winter(0);
        x.move(0, 0, 0);
        x.move(1, 8, 8);
        x.cold(0, -1);
        x.cold(1, 1440);
        for (int i = 3; i >= 1; i--) {
            Check.same("43: how many are left", x.restore(), i - 1);
            String want = states.get(i - 1);
            Check.same("43: all is as in IMAGE " + i, Check.state(x), want);
            x.tall(1, 7);
            x.cold(0, 7);
        }
    }

    private static void limitsAnew() {
        ShadeLedger x = new ShadeLedger();
        for (int i = 0; i < 3; i++) {
            Check.same("3: 20 suns, again", Check.tell(x, "sun 0 0 0 0;".repeat(20)), 0);
            Check.same("3: 20 rates, again", Check.tell(x, "rate 0 0;".repeat(20)), 0);
            Check.same("3: 60 CLAUSES, again", Check.tell(x, "fold0;".repeat(60)), 0);
            Check.same("3: a FAULT of the 21st", Check.tell(x, "sun 0 0 0 0;".repeat(21)), -7);
            Check.same("3: a FAULT of the 21st", Check.tell(x, "rate 0 0;".repeat(21)), -7);
            Check.same("3: a FAULT of the 61st", Check.tell(x, "fold0;".repeat(61)), -7);
        }
    }

    private static void all() {
        greatest();
        eightDirections();
        payments();
        firstMinute();
        moves();
        setAnew();
        exchanges();
        poles();
        wishes();
        plays();
        twentyRounds();
        coldFish();
        whereItStood();
        daysGoBy();
        cloudsAndSpans();
        ledAndHarmless();
        foldedEarly();
        awnedAndHours();
        lights();
        stallsWithout();
        outAndSuns();
        images();
        allOfAnImage();
    }

    public static void main(String[] arguments) {
        withoutClauses();
        limitsAnew();
        Check.newAndUsed(AnswerBoundaryTest::all);
        Check.finish("AnswerBoundaryTest");
    }
}
