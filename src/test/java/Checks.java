/** What the tests share: answers are compared, counted, and told when they are wrong. */
final class Checks {
    private static int right = 0;
    private static int wrong = 0;

    private Checks() {
    }

    static void due(String call, long got, long want) {
        if (got == want) {
            right++;
            return;
        }
        wrong++;
        if (wrong <= 50) {
            System.out.println(call + " answered " + got + ", due is " + want);
        }
    }

    /** Compares a row of answers, so that a state can be written down as one line. */
    static void dueRow(String call, long[] got, long... want) {
        due(call + ", how many answers", got.length, want.length);
        for (int i = 0; i < got.length && i < want.length; i++) {
            due(call + " [" + i + "]", got[i], want[i]);
        }
    }

    /** The number that stands for a text of at most 8 characters. */
    static long number(String text) {
        long number = 0;
        for (int i = 0; i < text.length(); i++) {
            number = number << 8 | text.charAt(i);
        }
        return number;
    }

    static void write(MendingMornings morning, String text) {
        for (int i = 0; i < text.length(); i += 8) {
            String piece = text.substring(i, Math.min(i + 8, text.length()));
            due("put(" + piece + ")", morning.put(number(piece)), morning.count(15));
        }
    }

    static int bring(MendingMornings morning, String text) {
        write(morning, text);
        return morning.bring();
    }

    static long[] fixerRow(MendingMornings morning, int fixer) {
        long[] row = new long[6];
        for (int what = 0; what < row.length; what++) {
            row[what] = morning.fixer(fixer, what);
        }
        return row;
    }

    static long[] thingRow(MendingMornings morning, int thing) {
        long[] row = new long[8];
        for (int what = 0; what < row.length; what++) {
            row[what] = morning.thing(thing, what);
        }
        return row;
    }

    static long[] counts(MendingMornings morning) {
        long[] row = new long[17];
        for (int what = 0; what < row.length; what++) {
            row[what] = morning.count(what);
        }
        return row;
    }

    /** Everything that can be seen of a morning, but for the pad and the history. */
    static String seen(MendingMornings x) {
        StringBuilder text = new StringBuilder();
        for (int what = 0; what < 15; what++) {
            text.append(x.count(what)).append(' ');
        }
        for (int i = 0; i < x.count(0); i++) {
            for (int what = 0; what < 6; what++) {
                text.append(x.fixer(i, what)).append(' ');
            }
        }
        for (int i = 0; i < x.count(1); i++) {
            for (int what = 0; what < 8; what++) {
                text.append(x.thing(i, what)).append(' ');
            }
            for (int step = 0; step < x.thing(i, 1); step++) {
                for (int what = 0; what < 3; what++) {
                    text.append(x.step(i, step, what)).append(' ');
                }
            }
        }
        return text.toString();
    }

    static void end(String name) {
        System.out.println(name + ": " + right + " answers as due, " + wrong + " not");
        if (wrong != 0 || right == 0) {
            System.exit(1);
        }
    }
}
