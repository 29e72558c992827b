import java.util.ArrayList;
import java.util.List;

/** Terms, part 1, and promises 2 to 4: each sentence about texts and the tape that names a boundary. */
public final class TextBoundaryTest {
    private static final Class<?> NO_ARGUMENT = IllegalArgumentException.class;
    private static final String[] OTHERS = {"stall 0 0 0;", "sun 0 0 0 0;", "rate 0 0;", "fold 0;", "dusk 0;",
        "cloud 0;"};
    private static final String[] OF_A_STALL = {"awning 0 0;", "grow 0 0 0;", "lantern 0;"};

    private TextBoundaryTest() {
    }

    private static void good(String why, String text, int stalls) {
        ShadeLedger x = new ShadeLedger();
        Check.tell(x, "x");
        Check.same(why + ": " + text, Check.tell(x, text), stalls);
        Check.same(why + ", no fault: " + text, x.fault(), -1);
        Check.same(why + ", the tape is empty: " + text, x.count(1), 0);
    }

    /** A fault leaves all as it was: DAY, WINTER, COLD fish, IMAGES, rounds. */
    private static void fault(String why, String text, int kind, int place) {
        ShadeLedger x = Check.of("field 3 2;stall 1 1 7;stall 2 1 3;awning 0 2;grow 1 5 9;lantern 1;fold 9;dusk 8;cloud 7;");
        x.days(1);
        x.winter(1);
        x.cold(0, 5);
        x.image();
        x.play();
        String before = Check.state(x).replaceAll("fault \\S+", "");
        Check.same(why + ": " + text, Check.tell(x, text), kind - 10);
        Check.same(why + ", its place: " + text, x.fault(), place);
        Check.same(why + ", all stays: " + text, Check.state(x).replaceAll("fault \\S+", ""), before);
        Check.same(why + ", no refusal: " + text, x.status(0) + x.status(1), 0);
    }

    private static String stalls(int many) {
        StringBuilder all = new StringBuilder();
        for (int i = 0; i < many; i++) {
            all.append("stall ").append(i % 4).append(' ').append(i / 4).append(" 1;");
        }
        return all.toString();
    }

    private static int stallsIn(String text) {
        return text.split("stall", -1).length - 1;
    }

    /** One number of a clause: its least and greatest, and all that is none such there. */
    private static void number(String ahead, String behind, int least, int most) {
        int place = ahead.length();
        String why = "number of " + ahead + ".." + behind;
        int many = stallsIn(ahead);
        for (int n : new int[] {least, most}) {
            good(why, ahead + n + behind, many);
            good(why + " with blanks", ahead + "   " + n + "  " + behind, many);
            good(why + " with zeros ahead", ahead + "0".repeat(25) + n + behind, many);
        }
        List<String> none = new ArrayList<>(List.of("" + (most + 1), "2147483647", "2147483648", "" + (4294967296L + least),
                "18446744073709551616", "18446744073709551618", "100000", "" + (65536 + least), "9".repeat(60)));
        if (least > 0) {
            none.add("" + (least - 1));
            none.add("0");
            none.add("00000");
        }
        for (String n : none) {
            fault(why, ahead + n + behind, 2, place);
            fault(why + " with blanks", ahead + "  " + n + behind, 2, place + 2);
            fault(why + " at the end of the text", ahead + n, 2, place);
        }
        for (String n : new String[] {"-1", "+1", "x", "A", "\t1", "" + (char) 0, "" + (char) 160, "" + (char) 177}) {
            fault(why + ", none there", ahead + n + behind, 1, place);
        }
        // Where one is left out the next one is read for it, so that the last one fails.
        fault(why + ", left out", ahead + behind, 1, place + behind.indexOf(';'));
        fault(why + ", the text ends", ahead, 1, place);
        fault(why + ", the text ends behind blanks", ahead + "   ", 1, place + 3);
        fault(why + ", a letter behind it", ahead + least + "x" + behind, 1, place + ("" + least).length());
    }

    private static void numbers() {
        number("field ", " 2;", 2, 9);
        number("field 2 ", ";", 2, 9);
        number("stall ", " 0 0;", 0, 5);
        number("stall 0 ", " 0;", 0, 3);
        number("field 2 9;stall ", " 0 0;", 0, 1);
        number("field 2 9;stall 0 ", " 0;", 0, 8);
        number("field 9 2;stall ", " 0 0;", 0, 8);
        number("field 9 2;stall 0 ", " 0;", 0, 1);
        number("stall 0 0 ", ";", 0, 40);
        number("stall 0 0 0;awning ", " 0;", 0, 0);
        number(stalls(8) + "awning ", " 0;", 0, 7);
        number("stall 0 0 0;awning 0 ", ";", 0, 3);
        number("stall 0 0 0;grow ", " 0 0;", 0, 0);
        number(stalls(8) + "grow ", " 0 0;", 0, 7);
        number("stall 0 0 0;grow 0 ", " 0;", 0, 5);
        number("stall 0 0 0;grow 0 0 ", ";", 0, 60);
        number("sun ", " 0 0 0;", 0, 1439);
        number("sun 0 ", " 0 0;", 0, 2);
        number("sun 0 0 ", " 0;", 0, 2);
        number("sun 0 0 0 ", ";", 0, 9);
        number("rate ", " 0;", 0, 1439);
        number("rate 0 ", ";", 0, 9);
        number("fold ", ";", 0, 1440);
        number("stall 0 0 0;lantern ", ";", 0, 0);
        number(stalls(8) + "lantern ", ";", 0, 7);
        number("dusk ", ";", 0, 1440);
        number("cloud ", ";", 0, 8);
    }

    private static void stallsToldAhead() {
        fault("K: told ahead, none is", "awning 0 0;stall 0 0 0;", 2, 7);
        fault("K: told ahead, none is", "grow 0 0 0;stall 0 0 0;", 2, 5);
        fault("K: told ahead, none is", "lantern 0;stall 0 0 0;", 2, 8);
        fault("K: told ahead, the next is not", "stall 0 0 0;awning 1 0;stall 1 0 0;", 2, 19);
        good("K: told ahead, just now", "stall 0 0 0;stall 1 0 0;awning 1 0;grow 1 0 0;lantern 1;", 2);
    }

    private static void cellsOfTheirOwn() {
        fault("in a CELL of its own", "stall 5 3 0;stall 5 3 0;", 2, 20);
        fault("in a CELL of its own, ahead of T", "stall 5 3 0;stall 5 3 41;", 2, 20);
        fault("in a CELL of its own, though T is missing", "stall 5 3 0;stall 5 3", 2, 20);
        fault("in a CELL of its own, at Y behind blanks", "stall 5 3 0;stall  5   3 0;", 2, 23);
        fault("X too great ahead of that", "stall 5 3 0;stall 6 3 0;", 2, 18);
        good("the CELLS beside it are free", "stall 5 3 0;stall 5 2 0;stall 4 3 0;stall 4 2 0;", 4);
        good("a full field", "field 2 2;stall 0 0 0;stall 1 0 0;stall 0 1 0;stall 1 1 0;", 4);
        fault("a full field has none free", "field 2 2;stall 0 0 0;stall 1 0 0;stall 0 1 0;stall 1 1 0;stall 1 1 0;", 2, 66);
    }

    private static void limits() {
        good("no CLAUSE", "", 0);
        good("blanks alone", "   ", 0);
        good("60 CLAUSES", "fold0;".repeat(60), 0);
        good("60 CLAUSES and blanks, 600 bytes", "fold0;".repeat(60) + " ".repeat(240), 0);
        fault("61 CLAUSES", "fold0;".repeat(61), 3, 360);
        fault("61 CLAUSES, at the word", "fold0;".repeat(60) + "  fold0;", 3, 362);
        fault("61 CLAUSES, though the text ends", "fold0;".repeat(60) + "cloud", 3, 360);
        fault("600 bytes, the text ends too early", "fold0;".repeat(59) + " ".repeat(240) + "fold 0", 1, 600);
        fault("600 bytes, the last one", "fold0;".repeat(59) + " ".repeat(241) + "fold0", 1, 600);
        fault("600 bytes, the last one can't stand there", "fold0;".repeat(60) + " ".repeat(239) + "x", 1, 599);
        good("8 STALLS", stalls(8), 8);
        fault("9 STALLS", stalls(8) + "stall 3 3 1;", 3, 96);
        fault("9 STALLS, ahead of a CELL that is taken", stalls(8) + "stall 0 0 1;", 3, 96);
        fault("9 STALLS, though the text ends", stalls(8) + "stall", 3, 96);
        good("20 suns", "sun 0 0 0 0;".repeat(20), 0);
        fault("21 suns, though of one MINUTE", "sun 0 0 0 0;".repeat(21), 3, 240);
        fault("21 suns, ahead of their numbers", "sun 0 0 0 0;".repeat(20) + "sun 9999;", 3, 240);
        good("20 rates", "rate 0 0;".repeat(20), 0);
        fault("21 rates, though of one MINUTE", "rate 0 0;".repeat(21), 3, 180);
        fault("21 rates, ahead of their numbers", "rate 0 0;".repeat(20) + " rate x;", 3, 181);
        good("20 suns and 20 rates and 8 STALLS", stalls(8) + "sun0 0 0 0;".repeat(20) + "rate0 0;".repeat(20), 8);
        good("21 of those without a limit", stalls(1) + "awning 0 0;".repeat(21), 1);
        good("21 of those without a limit", stalls(1) + "lantern 0;".repeat(21), 1);
        good("21 of those without a limit", "cloud 0;".repeat(21) + "dusk 0;".repeat(21), 0);
    }

    private static void fieldAhead() {
        for (String other : OTHERS) {
            good("field ahead of " + other, "field 9 9;" + other, stallsIn(other));
            fault("field too late behind " + other, other + "field 9 9;", 4, other.length());
        }
        for (String other : OF_A_STALL) {
            fault("field too late behind " + other, "stall 0 0 0;" + other + " field 9 9;", 4, 13 + other.length());
        }
        fault("field again", "field 9 9;field 9 9;", 4, 10);
        fault("field again, later", "field 9 9;fold 5;  field 9 9;", 4, 19);
        fault("field too late, ahead of its numbers", "fold 5;field 1 x", 4, 7);
        fault("field too late, though the text ends", "fold 5;field", 4, 7);
        fault("field too late, but a CLAUSE too many is less", "fold0;".repeat(60) + "field 9 9;", 3, 360);
        fault("a CLAUSE too many, but what can't stand there is less", "fold0;".repeat(60) + "folds0;", 1, 360);
        fault("a CLAUSE too many, but what can't stand there is less", "fold0;".repeat(60) + ";", 1, 360);
        fault("a CLAUSE too many, but what can't stand there is less", "fold0;".repeat(60) + "0;", 1, 360);
        fault("the first from the left: 4 ahead of 1", "fold 5;field 9 9;x", 4, 7);
        fault("the first from the left: 1 ahead of 4", "fold 5 x;field 9 9;", 1, 7);
        fault("the first from the left: 2 ahead of 1", "fold 1441x", 2, 5);
        fault("the first from the left: 2 ahead of 3", "fold 1441;" + "fold0;".repeat(60), 2, 5);
    }

    private static void wordsAndBlanks() {
        for (String word : new String[] {"field", "stall", "awning", "grow", "sun", "rate", "fold", "lantern", "dusk",
            "cloud"}) {
            fault("a word too short", word.substring(0, word.length() - 1) + " 0;", 1, 0);
            fault("a word without its beginning", word.substring(1) + " 0;", 1, 0);
            fault("a word too long", word + "s 0;", 1, 0);
            fault("a great letter at its beginning", (char) (word.charAt(0) - 32) + word.substring(1) + " 0;", 1, 0);
            fault("great letters", word.toUpperCase() + " 0;", 1, 0);
            fault("a word twice", word + word + " 0;", 1, 0);
            fault("a word that ends in a great letter", word + "S 0;", 1, word.length());
            fault("a blank in a word", word.substring(0, 2) + " " + word.substring(2) + " 0;", 1, 0);
            fault("the text ends behind a word", "  " + word, 1, 2 + word.length());
        }
        fault("no word", ";", 1, 0);
        fault("no word behind a CLAUSE", "fold 0;;", 1, 7);
        fault("no word, a number", " 0", 1, 1);
        fault("no end", "fold 0", 1, 6);
        fault("no end, blanks", "fold 0   ", 1, 9);
        fault("a number more", "fold 0 0;", 1, 7);
        fault("a word more", "fold 0 fold 0;", 1, 7);
        good("blanks ahead of all, and at the end", "  field  9  9  ;  stall  8  8  40  ;  ", 1);
        good("no blank between word and number", "field9 9;stall8 8 40;", 1);
        for (char c : new char[] {0, 9, 10, 13, 31, 33, 96, 123, 127, 128, 160, 255}) {
            fault("no blank: byte " + (int) c, "fold" + c + "0;", 1, 4);
            fault("no blank at the end: byte " + (int) c, "fold 0;" + c, 1, 7);
        }
        for (char c : new char[] {47, 58, 48 + 128, 57 + 128}) {
            fault("no digit: byte " + (int) c, "fold 0" + c + ";", 1, 6);
        }
        fault("no end: byte 187", "fold 0" + (char) (59 + 128), 1, 6);
    }

    private static void theLastCounts() {
        ShadeLedger x = Check.of("stall 0 0 10;stall 1 0 0;awning 0 3;awning 0 0;grow 0 5 60;grow 0 0 0;lantern 1;lantern 1;"
                + "fold 0;fold 1440;dusk 0;dusk 1440;cloud 8;cloud 0;sun 7 0 0 9;sun 7 2 1 1;rate 7 9;rate 7 0;rate 9 3;");
        int[] told = {6, 4, 2, 0, 0, 1440, 1440, 0};
        for (int i = 0; i < told.length; i++) {
            Check.same("the last counts: told " + i, x.told(i), told[i]);
        }
        int[] stall = {0, 0, 10, 0, 0, 0, 0};
        for (int i = 0; i < stall.length; i++) {
            Check.same("the last counts: stall " + i, x.stall(0, i), stall[i]);
        }
        Check.same("a lantern told twice", x.stall(1, 6), 1);
        Check.same("of one M the last sun counts", x.minutes(0, 1), 1433);
        Check.same("of one M the last rate counts", x.owes(0, 1, 10), 3);
    }

    private static void tape() {
        ShadeLedger x = new ShadeLedger();
        for (int i = 1; i <= 30; i++) {
            Check.same("2: how many there are", x.feed(-1, i, 0, Integer.MIN_VALUE, Integer.MAX_VALUE), 20 * i);
        }
        Check.same("2: more than 600", x.feed(0x20202020, 0x20202020, 0x20202020, 0x20202020, 0x20202020), -1);
        Check.same("2: again", x.feed(0, 0, 0, 0, 0), -1);
        Check.same("2: doing nothing", x.count(1), 600);
        Check.same("2: these are no refusals", x.status(0) + x.status(1), 0);
        Check.same("2: the first byte is the highest: 255", x.market(600) * 1000 + x.fault(), -9000);
        Check.same("2: room again", x.feed(0, 0, 0, 0, 0), 20);
        ShadeLedger full = new ShadeLedger();
        Check.feed(full, "fold 7;" + " ".repeat(586) + "dusk 9;");
        Check.same("2: full", full.feed(0x78787878, 0x78787878, 0x78787878, 0x78787878, 0x78787878), -1);
        Check.same("2: NONE left all bytes as they were", full.market(600), 0);
        Check.same("2: NONE left all bytes as they were", full.told(5) * 10 + full.told(6), 79);
        ShadeLedger bytes = new ShadeLedger();
        bytes.feed(0x666f6c64, 0x20313233, 0x343b0000, 0, 0);
        Check.same("2: of each number the highest first", bytes.market(10) * 10000 + bytes.told(5), 1234);
    }

    private static void marketOfBytes() {
        for (int n : new int[] {1, -1, Integer.MIN_VALUE, Integer.MAX_VALUE}) {
            ShadeLedger none = Check.of("field 3 2;stall 2 1 5;fold 9;");
            Check.refusedBare("3: no byte on the TAPE: " + n, none, NO_ARGUMENT, () -> none.market(n));
        }
        ShadeLedger x = Check.of("field 3 2;stall 2 1 5;fold 9;");
        Check.feed(x, "fold 77;fold 99;x");
        for (int n : new int[] {21, 600, -1, Integer.MIN_VALUE, Integer.MAX_VALUE}) {
            Check.refusedBare("3: not 0 to 20: " + n, x, NO_ARGUMENT, () -> x.market(n));
        }
        Check.same("3: it stays", x.count(1), 20);
        Check.same("3: its first bytes alone", x.market(8) * 100 + x.told(5), 77);
        Check.same("3: empty then", x.count(1), 0);
        Check.feed(x, "fold 77;");
        Check.same("3: all its bytes, the filling, too", x.market(20) * 100 + x.fault(), -892);
        Check.same("3: empty then, with a FAULT, too", x.count(1), 0);
        Check.refusedBare("3: no byte any more", x, NO_ARGUMENT, () -> x.market(1));
        Check.feed(x, "x");
        Check.same("3: none of its bytes", x.market(0), 0);
        Check.same("3: empty then, though none was read", x.count(1), 0);
        Check.same("3: a MARKET without CLAUSES", x.told(0) * 10000 + x.told(1) * 1000 + x.told(2), 64000);
        Check.same("3: nor a fold", x.told(5), 1440);
    }

    private static void faultOfTheLatest() {
        ShadeLedger x = new ShadeLedger();
        Check.same("4: NONE ahead of any market()", x.fault(), -1);
        Check.refused("4: refused", NO_ARGUMENT, () -> x.market(1));
        Check.same("4: NONE, though refused", x.fault(), -1);
        Check.tell(x, "x");
        Check.same("4: at 0", x.fault(), 0);
        Check.refused("4: refused", NO_ARGUMENT, () -> x.market(1));
        Check.same("4: a refused call leaves it", x.fault(), 0);
        Check.tell(x, "fold");
        Check.same("4: of the latest", x.fault(), 4);
        x.market(0);
        Check.same("4: NONE behind a good one", x.fault(), -1);
    }

    private static void all() {
        stallsToldAhead();
        cellsOfTheirOwn();
        limits();
        fieldAhead();
        wordsAndBlanks();
        theLastCounts();
        tape();
        marketOfBytes();
        faultOfTheLatest();
    }

    public static void main(String[] arguments) {
        numbers();
        Check.newAndUsed(TextBoundaryTest::all);
        Check.finish("TextBoundaryTest");
    }
}
