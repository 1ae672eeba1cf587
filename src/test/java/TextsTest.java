import java.util.regex.Matcher;
import java.util.regex.Pattern;

/** Promises 22 to 24: put, wipe and fault. */
public final class TextsTest {
    private static final int BAD_VALUE = -2, BAD_TEXT = -3, TOO_MANY = -4, NONE = -6;
    private static final Pattern STEP = Pattern.compile("[0-4][1-9](p[0-3])?");
    private static final Pattern THING = Pattern.compile(STEP + "(," + STEP + "){0,3}(![0-3])?");
    private static final Pattern TEXT = Pattern.compile(THING + "(;" + THING + ")*");

    public static void main(String[] args) {
        promise22Put();
        promise22BadValues();
        promise22TooMany();
        promise23Wipe();
        promise24Faults();
        promise24EachPlace();
        promise24LongTexts();
        Checks.end("TextsTest");
    }

    private static void promise22Put() {
        MendingMornings x = new MendingMornings();
        Checks.due("22 one character", x.put('1'), 1);
        Checks.due("22 two more", x.put('2' << 8 | 'p'), 3);
        Checks.due("22 the lowest 8 bits are the last", x.put(0x332c3432), 7);
        Checks.due("22 eight", x.put(Checks.number(";01,02p3")), 15);
        Checks.due("22 no change", x.count(16), 0);
        Checks.due("22 length", x.count(15), 15);
        Checks.due("22 12p3,42;01,02p3", x.bring(), 2);
        int[][] steps = {{0, 0, 1, 2, 3}, {0, 1, 4, 2, NONE}, {1, 0, 0, 1, NONE}, {1, 1, 0, 2, 3}};
        for (int[] row : steps) {
            for (int what = 0; what < 3; what++) {
                Checks.due("22 step", x.step(row[0], row[1], what), row[2 + what]);
            }
        }
    }

    private static void promise22BadValues() {
        MendingMornings x = new MendingMornings();
        long[] bad = {0, 32, 127, 128, 255, 0x3100, 0x310000, 0x31003100L, 0x3100310031L, 0x2031, 0x3120, 0x7f31, 0x317f,
            -1, Long.MIN_VALUE, Long.MAX_VALUE, 0x3131313131313120L, 0x2031313131313131L, 0xb131313131313131L,
            0x3100313131313131L, 0x3131313131313100L, 0x0100000000000031L, 0x8000000000000031L, 0x3131313100313131L};
        for (long characters : bad) {
            Checks.due("22 put(" + characters + ")", x.put(characters), BAD_VALUE);
        }
        Checks.due("22 nothing changed", x.count(15), 0);
        Checks.due("22 the first code", x.put(33), 1);
        Checks.due("22 the last code", x.put(126), 2);
        Checks.due("22 seven", x.put(Checks.number("~!~!~!~")), 9);
        Checks.due("22 eight", x.put(Checks.number("~~~~~~~~")), 17);
        for (long code = 1; code < 256; code++) {
            boolean isGood = code >= 33 && code <= 126;
            MendingMornings y = new MendingMornings();
            Checks.due("22 put(" + code + ")", y.put(code), isGood ? 1 : BAD_VALUE);
            y.wipe();
            Checks.due("22 put, code ahead", y.put(code << 8 | '0'), isGood ? 2 : BAD_VALUE);
            y.wipe();
            Checks.due("22 put, code first of eight", y.put(code << 56 | Checks.number("1234567")), isGood ? 8 : BAD_VALUE);
        }
    }

    private static void promise22TooMany() {
        MendingMornings x = new MendingMornings();
        for (int i = 0; i < 7; i++) {
            Checks.due("22 put", x.put(Checks.number("xxxxxxxx")), 8 * i + 8);
        }
        Checks.due("22 five more", x.put(Checks.number("xxxxx")), TOO_MANY);
        Checks.due("22 eight more", x.put(Checks.number("xxxxxxxx")), TOO_MANY);
        Checks.due("22 bad ones first", x.put(Checks.number("xxxx x")), BAD_VALUE);
        Checks.due("22 nothing changed", x.count(15), 56);
        Checks.due("22 four more", x.put(Checks.number("xxxx")), 60);
        Checks.due("22 one more", x.put('x'), TOO_MANY);
        Checks.due("22 none", x.put(0), BAD_VALUE);
        Checks.due("22 full", x.count(15), 60);
    }

    private static void promise23Wipe() {
        MendingMornings x = new MendingMornings();
        Checks.due("23 empty", x.wipe(), 0);
        Checks.write(x, "01;02p1");
        Checks.due("23 seven", x.wipe(), 7);
        Checks.due("23 empty", x.wipe(), 0);
        Checks.due("23 length", x.count(15), 0);
        Checks.due("23 no text", x.bring(), BAD_TEXT);
        Checks.due("23 no change", x.count(16), 0);
        Checks.due("23 from the start", Checks.bring(x, "34"), 1);
        Checks.due("23 the new text", x.step(0, 0, 0), 3);
    }

    private static void promise24Faults() {
        MendingMornings x = new MendingMornings();
        Checks.due("24 empty", x.fault(), 0);
        Object[][] texts = {{"0", 1}, {"01", NONE}, {"5", 0}, {"51", 0}, {"00", 1}, {"0a", 1}, {"01p", 3}, {"01p4", 3},
            {"01p3", NONE}, {"01p3p", 4}, {"01!", 3}, {"01!3", NONE}, {"01!4", 3}, {"01!0", NONE}, {"01!1!", 4},
            {"01!1,", 4}, {"01!1p", 4}, {"01!1;", 5}, {"01,", 3}, {"01,5", 3}, {"01;", 3}, {"01;;", 3}, {"01,,", 3},
            {"01;49", NONE}, {"01,12,23,34", NONE}, {"01,12,23,34,", 11}, {"01,12,23,34,41", 11},
            {"01,12,23,34!2", NONE}, {"01,12,23,34p1", NONE}, {"01,12,23,34p1,", 13}, {"01,12,23,34;", 12},
            {"01,12,23,34;01,12,23,34", NONE}, {"01,12,23,34;01,12,23,34,01", 23}, {"01p0!1;02p1", NONE}, {"p", 0},
            {"!", 0}, {",", 0}, {";", 0}, {"011", 2}, {"01p01", 4}, {"01P1", 2}, {"01!11", 4}, {"/1", 0}, {":1", 0},
            {"0/", 1}, {"0:", 1}, {"01p/", 3}, {"01!/", 3}};
        for (Object[] row : texts) {
            Checks.write(x, (String) row[0]);
            Checks.due("24 fault of " + row[0], x.fault(), (Integer) row[1]);
            Checks.due("24 once more", x.fault(), (Integer) row[1]);
            x.wipe();
        }
        Checks.due("24 no change", x.count(16), 0);
    }

    /** Each character that the pad can hold, at the end of each kind of text. */
    private static void promise24EachPlace() {
        String[] texts = {"", "0", "01", "01p", "01p1", "01!", "01!1", "01,", "01,12,23,34", "01,12,23,34p2", "01,12,23,34!2",
            "01,12,23", "01;", "01;4", "01,12,23,34;01", "01,12,23,34;01,12,23,34", "x"};
        for (String text : texts) {
            for (char character = 33; character <= 126; character++) {
                MendingMornings x = new MendingMornings();
                String longer = text + character;
                Checks.write(x, longer);
                Checks.due("24 fault of " + longer, x.fault(), faultOf(longer));
                Checks.due("24 bring " + longer, x.bring() == BAD_TEXT ? 1 : 0, faultOf(longer) == NONE ? 0 : 1);
            }
        }
    }

    private static void promise24LongTexts() {
        MendingMornings x = new MendingMornings();
        String things = "01;02;03;04;05;06;07;08;09;11;12;13;14;15;16;17;18;19;21;";
        Checks.write(x, things);
        Checks.due("24 things, too many to bring", x.fault(), 57);
        Checks.write(x, "22;");
        Checks.due("24 a full pad", x.fault(), 60);
        x.wipe();
        Checks.write(x, things + "2");
        Checks.due("24 work", x.fault(), 58);
        Checks.write(x, "2");
        Checks.due("24 no fault", x.fault(), NONE);
        Checks.write(x, "!");
        Checks.due("24 a full pad", x.fault(), 60);
    }

    /** The fault as the document says it: the first character behind which no longer text could be right. */
    static int faultOf(String text) {
        for (int length = 1; length <= text.length(); length++) {
            Matcher matcher = TEXT.matcher(text.substring(0, length));
            if (!matcher.matches() && !matcher.hitEnd()) {
                return length - 1;
            }
        }
        return TEXT.matcher(text).matches() ? NONE : text.length();
    }
}
