/** FAULT of a TEXT: each of the 256 bytes behind each start of a LINE, by the bytes that may go on there. */
public final class TextTest {
    private static final Check CHECK = new Check("TextTest");
    private static final String DIGITS = "0123456789";
    private static final String LETTERS = "tusw";
    /** A start of a TEXT, and the bytes with which one goes on. */
    private static final String[][] STARTS = {
        {"", LETTERS}, {"u 1;", LETTERS}, {"t 1 2;", LETTERS}, {"s 1;", LETTERS}, {"s -1;w 1 -1;", LETTERS},
        {"t", " "}, {"u", " "}, {"s", " "}, {"w", " "}, {"s 1;t", " "},
        {"t ", DIGITS}, {"u ", DIGITS}, {"w ", DIGITS}, {"s ", DIGITS + "-"},
        {"s -", DIGITS}, {"w 1 -", DIGITS}, {"t 1 ", DIGITS}, {"w 1 ", DIGITS + "-"}, {"w 1234 ", DIGITS + "-"},
        {"t 1", DIGITS + " "}, {"t 12", DIGITS + " "}, {"t 123", DIGITS + " "}, {"t 1234", " "}, {"t 0000", " "},
        {"w 1", DIGITS + " "}, {"w 123", DIGITS + " "}, {"w 1234", " "},
        {"t 1 2", DIGITS + ";"}, {"t 1 234", DIGITS + ";"}, {"t 1 2345", ";"}, {"t 1234 5678", ";"},
        {"u 1", DIGITS + ";"}, {"u 12", DIGITS + ";"}, {"u 123", DIGITS + ";"}, {"u 1234", ";"},
        {"s 1", DIGITS + ";"}, {"s 123", DIGITS + ";"}, {"s 1234", ";"},
        {"s -1", DIGITS + ";"}, {"s -123", DIGITS + ";"}, {"s -1234", ";"}, {"s 0000", ";"}, {"s -0", DIGITS + ";"},
        {"w 1 2", DIGITS + ";"}, {"w 1 234", DIGITS + ";"}, {"w 1 2345", ";"},
        {"w 1 -2", DIGITS + ";"}, {"w 1 -234", DIGITS + ";"}, {"w 1 -2345", ";"}};

    public static void main(String[] args) {
        for (String[] start : STARTS) {
            everyByteBehind(start[0], start[1]);
            CHECK.due("24 it ends too early: " + start[0], fault(start[0]), start[0].endsWith(";") ? -1 : start[0].length());
        }
        atTheEndOfTheTape();
        numbers();
        CHECK.end();
    }

    private static int fault(String text) {
        int answer = Check.playText(new StageMachine(), text);
        return answer <= -100 && answer > -1000 ? -100 - answer : -1;
    }

    private static void everyByteBehind(String start, String allowed) {
        for (int b = 0; b < 256; b++) {
            boolean ends = b == ';' && allowed.indexOf(b) >= 0;
            int due = allowed.indexOf(b) < 0 ? start.length() : ends ? -1 : start.length() + 1;
            CHECK.due("24 byte " + b + " behind " + start, fault(start + (char) b), due);
            if (allowed.indexOf(b) < 0) {
                CHECK.due("24 byte " + b + " behind " + start + ", with more", fault(start + (char) b + " 1;"), due);
            }
        }
    }

    /** THE TAPE has room for 120 bytes; a FAULT may be at each of them, and behind the last one. */
    private static void atTheEndOfTheTape() {
        String full = "w 0 1;".repeat(20);
        CHECK.due("24 120 bytes", Check.playText(new StageMachine(), full), 20);
        for (int place = 0; place < 120; place++) {
            CHECK.due("24 FAULT at " + place, fault(full.substring(0, place) + "#" + full.substring(place + 1)), place);
        }
        for (int length = 0; length < 120; length++) {
            int due = length % 6 == 0 && length > 0 ? -1 : length;
            CHECK.due("24 " + length + " bytes", fault(full.substring(0, length)), due);
        }
        CHECK.due("24 119 bytes and one more of a number", fault(full.substring(0, 119) + "1"), 120);
    }

    /** What a number of one to four digits is, with and without - ahead. */
    private static void numbers() {
        String[] texts = {"0", "7", "07", "0007", "10", "999", "1000", "9999", "-0", "-7", "-0007", "-9999"};
        int[] values = {0, 7, 7, 7, 10, 999, 1000, 9999, 0, -7, -7, -9999};
        for (int i = 0; i < texts.length; i++) {
            StageMachine x = new StageMachine();
            CHECK.due("24 LINES", Check.playText(x, "s " + texts[i] + ";w 19 " + texts[i] + ";w 0019 " + texts[i] + ";"), 3);
            CHECK.row("24 number " + texts[i], new int[] {x.count(4), x.count(9), x.weight(19, 0)},
                values[i], Math.abs(values[i]), values[i]);
        }
        StageMachine y = new StageMachine();
        CHECK.due("24 COUNTERWEIGHT 0", Check.playText(y, "w 0 5;"), 1);
        CHECK.due("24 COUNTERWEIGHT 19", Check.playText(y, "w 19 6;"), 1);
        CHECK.due("24 COUNTERWEIGHT 20", Check.playText(y, "w 20 6;"), -1000);
        CHECK.row("24 they are told", new int[] {y.weight(0, 0), y.weight(19, 0)}, 5, 6);
        for (int i = 0; i < 2; i++) {
            y.thing(100 * i, 1, 99, 0);
            y.drum(1);
            y.rope(i, 11, 1);
        }
        CHECK.due("24 ROPE 2", Check.playText(y, "t 2 0;"), -1000);
        CHECK.due("24 DRUM 2", Check.playText(y, "t 1 2;"), -1000);
        CHECK.due("24 ROPE 1, DRUM 1", Check.playText(y, "t 1 1;"), 1);
        CHECK.due("24 ROPE 2 is none", Check.playText(y, "u 2;"), -1000);
        CHECK.due("24 ROPE 0 is not TIED", Check.playText(y, "u 0;"), -1000);
        CHECK.due("24 ROPE 1 is TIED", Check.playText(y, "u 1;"), 1);
    }
}
