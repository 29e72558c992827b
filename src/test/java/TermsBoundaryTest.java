/** Terms, part 2: each sentence about minutes, shadows, shade and what is due that names a boundary. */
public final class TermsBoundaryTest {
    private static final String LINE = "field 9 2;stall 0 0 10;stall 1 0 0;";

    private TermsBoundaryTest() {
    }

    private static void minutesOfADay() {
        ShadeLedger all = Check.of(LINE + "sun 0 2 1 1;");
        Check.same("MINUTES 0 to 1,439: all of them", all.minutes(0, 1), 1440);
        Check.same("MINUTE 0", all.shades(0, 1, 0), true);
        Check.same("MINUTE 1,439", all.shades(0, 1, 1439), true);
        ShadeLedger last = Check.of(LINE + "sun 1439 2 1 1;");
        Check.same("the last MINUTE alone", last.minutes(0, 1), 1);
        Check.same("ahead of any sun", last.shades(0, 1, 1438), false);
        Check.same("in it", last.shades(0, 1, 1439), true);
        Check.same("no sun at all", Check.of(LINE).due(), 0);
        ShadeLedger first = Check.of(LINE + "sun 0 2 1 1;sun 1 1 1 1;");
        Check.same("the first MINUTE alone", first.minutes(0, 1), 1);
        Check.same("in it", first.length(0, 0) * 10 + first.length(0, 1), 10);
    }

    private static void lengthIsCut() {
        int[][] cases = {{0, 9, 0, 0}, {1, 9, 0, 1}, {2, 9, 1, 3}, {4, 1, 0, 0}, {5, 1, 0, 1}, {9, 1, 0, 1}, {10, 1, 1, 2},
            {19, 1, 1, 3}, {20, 1, 2, 4}, {60, 0, 0, 0}, {60, 9, 54, 108}, {11, 9, 9, 19}};
        for (int[] c : cases) {
            ShadeLedger x = Check.of("stall 0 0 0;sun 0 2 1 " + c[1] + ";");
            x.tall(0, c[0]);
            Check.same("LENGTH of " + c[0] + " by " + c[1], x.length(0, 0), c[2]);
            x.winter(1);
            Check.same("LENGTH in WINTER of " + c[0] + " by " + c[1], x.length(0, 0), c[3]);
        }
    }

    private static void stepsOfLength() {
        for (int steps = 1; steps <= 8; steps++) {
            ShadeLedger x = Check.of("field 9 2;stall 0 0 10;stall " + steps + " 0 0;sun 0 2 1 1;");
            for (int height : new int[] {10 * steps - 1, 10 * steps, 10 * steps + 9}) {
                if (height <= 60) {
                    x.tall(0, height);
                    Check.same(steps + " steps off, " + height + " tall", x.shades(0, 1, 0), height >= 10 * steps);
                }
            }
            x.tall(0, 5 * steps - 1);
            x.winter(1);
            Check.same(steps + " steps off in WINTER, too short", x.shades(0, 1, 0), false);
            x.tall(0, 5 * steps);
            Check.same(steps + " steps off in WINTER", x.shades(0, 1, 0), true);
        }
        Check.same("it lies nowhere", Check.of(LINE + "sun 0 1 1 9;").first(0), -1);
        Check.same("no CELLS for each 10", Check.of(LINE + "sun 0 2 1 0;").first(0), -1);
    }

    /** Out of the field in any direction, and not in again at the other side. */
    private static void inTheField() {
        for (int cell = 0; cell < 9; cell++) {
            for (int direction = 0; direction < 9; direction++) {
                int x = cell % 3 + direction % 3 - 1;
                int y = cell / 3 + direction / 3 - 1;
                if (x < 0 || y < 0 || x > 2 || y > 2) {
                    outOfTheField(cell, direction);
                }
            }
        }
    }

    private static void outOfTheField(int cell, int direction) {
        StringBuilder text = new StringBuilder("field 3 3;stall " + cell % 3 + " " + cell / 3 + " 40;");
        int many = 1;
        for (int i = 0; i < 9 && many < 8; i++) {
            if (i != cell) {
                text.append("stall ").append(i % 3).append(' ').append(i / 3).append(" 0;");
                many++;
            }
        }
        ShadeLedger x = Check.of(text + "sun 0 " + direction % 3 + " " + direction / 3 + " 9;");
        String what = "out of the field from " + cell + " by " + direction;
        Check.same(what + ": nobody", x.first(0), -1);
        Check.same(what + ": its LENGTH is as it is", x.length(0, 0), 36);
        Check.same(what + ": HARMLESS", x.harmless(0), 60);
    }

    /** From the side, so that the awning is another one's than that of who throws. */
    private static void underAnAwning() {
        for (int n = 0; n <= 3; n++) {
            for (int y = 1; y <= 5; y++) {
                ShadeLedger x = Check.of("field 3 9;stall 1 0 0;awning 0 " + n + ";stall 1 " + y + " 0;stall 0 " + y
                        + " 10;sun 0 2 1 1;");
                Check.same("N CELLS right below: " + n + ", " + y + " below", x.shades(2, 1, 0), y > n);
                x.move(0, 1, 8);
                Check.same("an awning below covers nobody above", x.shades(2, 1, 0), true);
                x.move(0, 2, y - 1);
                Check.same("an awning in the column beside", x.shades(2, 1, 0), true);
            }
        }
        ShadeLedger between = Check.of("field 3 9;stall 1 0 0;awning 0 3;stall 1 1 40;stall 1 3 0;stall 0 3 10;sun 0 2 1 1;");
        Check.same("what stands between does not shorten an awning", between.shades(3, 2, 0), false);
        ShadeLedger itself = Check.of("field 3 3;stall 1 1 0;awning 0 3;stall 0 1 10;sun 0 2 1 1;");
        Check.same("nobody is under its own awning", itself.shades(1, 0, 0), true);
        ShadeLedger end = Check.of("field 3 3;stall 1 2 0;awning 0 3;stall 1 0 0;stall 0 0 10;sun 0 2 1 1;");
        Check.same("an awning ends with the field", end.shades(2, 1, 0), true);
        ShadeLedger throwsIt = Check.of("field 2 4;stall 0 0 40;awning 0 3;stall 0 3 0;sun 0 1 2 1;");
        Check.same("an awning of who throws is no other one's", throwsIt.shades(0, 1, 0), true);
        ShadeLedger under = Check.of("field 3 3;stall 1 0 0;awning 0 1;stall 1 1 10;stall 2 1 0;sun 0 2 1 1;");
        Check.same("who is under an awning throws all the same", under.shades(1, 2, 0), true);
    }

    private static void tallerBetween() {
        for (int direction = 0; direction < 9; direction++) {
            if (direction != 4) {
                tallerBetween(direction % 3, direction / 3);
            }
        }
        ShadeLedger x = Check.of("field 5 2;stall 0 0 20;stall 2 0 0;stall 3 0 40;stall 1 1 40;sun 0 2 1 2;");
        Check.same("a taller one behind, and one beside", x.shades(0, 1, 0), true);
        Check.same("a taller one itself is in it", x.shades(0, 2, 0), true);
        x.move(3, 1, 0);
        Check.same("now between", x.shades(0, 1, 0), false);
        Check.same("the one between is in it", x.shades(0, 3, 0), true);
        Check.same("and behind both", x.shades(0, 2, 0), false);
        x.move(3, 4, 0);
        Check.same("a taller one behind who throws is none between", x.shades(0, 1, 0), true);
        ShadeLedger far = Check.of("field 9 2;stall 0 0 20;stall 7 0 21;stall 8 0 0;sun 0 2 1 4;");
        Check.same("taller on the last CELL ahead", far.shades(0, 2, 0), false);
        far.tall(0, 21);
        Check.same("not taller on the last CELL ahead", far.shades(0, 2, 0), true);
    }

    private static void tallerBetween(int i, int j) {
        StringBuilder text = new StringBuilder("field 9 9;stall 4 4 20;");
        text.append("stall ").append(4 + i - 1).append(' ').append(4 + j - 1).append(" 19;");
        text.append("stall ").append(4 + 4 * (i - 1)).append(' ').append(4 + 4 * (j - 1)).append(" 0;");
        ShadeLedger x = Check.of(text + "sun 0 " + i + " " + j + " 2;");
        for (int steps = 1; steps <= 3; steps++) {
            String what = steps + " steps off by " + i + " " + j;
            x.move(1, 4 + steps * (i - 1), 4 + steps * (j - 1));
            x.tall(1, 19);
            Check.same("between, lower, " + what, x.shades(0, 2, 0), true);
            x.tall(1, 20);
            Check.same("between, as tall, " + what, x.shades(0, 2, 0), true);
            x.tall(1, 21);
            Check.same("between, taller, " + what, x.shades(0, 2, 0), false);
            x.tall(2, 60);
            Check.same("how tall the one in it is counts not, " + what, x.shades(1, 2, 0), true);
        }
    }

    private static void foldAndRates() {
        int[][] folds = {{0, 0}, {1, 1}, {1439, 1439}, {1440, 1440}};
        for (int[] f : folds) {
            ShadeLedger x = Check.of(LINE + "sun 0 2 1 1;fold " + f[0] + ";");
            Check.same("from fold on: " + f[0], x.minutes(0, 1), f[1]);
            Check.same("due: " + f[0], x.due(), f[1]);
        }
        ShadeLedger rate = Check.of(LINE + "sun 0 2 1 1;rate 1439 9;rate 100 0;rate 200 5;");
        int[][] owes = {{0, 0}, {1, 1}, {99, 99}, {100, 100}, {101, 100}, {200, 100}, {201, 105}, {1439, 6295}, {1440, 6304}};
        for (int[] o : owes) {
            Check.same("before any rate 1, then it: ahead of " + o[0], rate.owes(0, 1, o[0]), o[1]);
        }
        Check.same("SHADE, though it costs nothing", rate.minutes(0, 1) + rate.chill(1), 2880);
        ShadeLedger early = Check.of(LINE + "sun 0 2 1 1;rate 0 0;");
        Check.same("nothing is due by rate 0", early.due() * 10 + early.suns(), -1);
        Check.same("but somebody is in SHADE", early.first(0), 0);
    }

    private static void dusk() {
        int[][] dusks = {{0, 2880}, {1, 2879}, {1439, 1441}, {1440, 1440}};
        for (int[] d : dusks) {
            ShadeLedger x = Check.of(LINE + "lantern 0;sun 0 2 1 1;dusk " + d[0] + ";");
            Check.same("double from dusk on: " + d[0], x.due(), d[1]);
            Check.same("LIGHTS: " + d[0], x.lights(), 1440 - d[0]);
            Check.same("no lantern of who throws", Check.of(LINE + "lantern 1;sun 0 2 1 1;dusk " + d[0] + ";").due(), 1440);
        }
        ShadeLedger x = Check.of(LINE + "lantern 0;sun 0 2 1 1;dusk 100;rate 100 9;");
        Check.same("ahead of dusk", x.owes(0, 1, 100), 100);
        Check.same("from dusk on", x.owes(0, 1, 101), 118);
        Check.same("folded ahead of dusk", Check.of(LINE + "lantern 0;sun 0 2 1 1;dusk 100;fold 100;").lights(), 0);
        Check.same("folded behind dusk", Check.of(LINE + "lantern 0;sun 0 2 1 1;dusk 100;fold 101;").lights(), 1);
    }

    /** By SEED 1 and C 2 the HOURS 2, 14, 16 and 18 have a cloud. */
    private static void hoursOfClouds() {
        int[][] minutes = {{0, 1}, {119, 1}, {120, 0}, {179, 0}, {180, 1}, {839, 1}, {840, 0}, {899, 0}, {900, 1}, {1079, 1},
            {1080, 0}, {1139, 0}, {1140, 1}, {1439, 1}};
        for (int[] m : minutes) {
            ShadeLedger x = Check.of(LINE + "cloud 2;sun " + m[0] + " 2 1 1;fold " + (m[0] + 1) + ";");
            Check.same("an HOUR has 60 MINUTES: " + m[0], x.clouds(1, 0), m[1]);
            Check.same("without clouds drawn there are none: " + m[0], x.due() + x.chill(1), 2);
        }
    }

    private static void owesAheadOfAMinute() {
        ShadeLedger x = Check.of(LINE + "sun 500 2 1 1;sun 600 0 1 1;");
        x.tall(1, 10);
        int[][] cases = {{0, 0, 0}, {500, 0, 0}, {501, 1, 0}, {600, 100, 0}, {601, 100, 1}, {1439, 100, 839}, {1440, 100, 840}};
        for (int[] c : cases) {
            Check.same("OWES ahead of " + c[0], x.owes(0, 1, c[0]), c[1]);
            Check.same("OWES back ahead of " + c[0], x.owes(1, 0, c[0]), c[2]);
            Check.same("NET ahead of " + c[0], x.net(0, c[0]), c[2] - c[1]);
            Check.same("NET of the other", x.net(1, c[0]), c[1] - c[2]);
        }
        Check.same("PAYMENTS: NETS are 0 again", x.payments(700), 0);
        Check.same("PAYMENTS: not yet", x.payments(699), 1);
        Check.same("PAYMENTS: not any more", x.payments(701), 1);
    }

    private static void all() {
        minutesOfADay();
        lengthIsCut();
        stepsOfLength();
        inTheField();
        underAnAwning();
        tallerBetween();
        foldAndRates();
        dusk();
        hoursOfClouds();
        owesAheadOfAMinute();
    }

    public static void main(String[] arguments) {
        Check.newAndUsed(TermsBoundaryTest::all);
        Check.finish("TermsBoundaryTest");
    }
}
