/**
 * Refused calls, in a new, a busy and a full morning: the error that is due, the one of several that is due first, and
 * that nothing is changed (Script sees to that, for each refused call).
 */
public final class RefusalTest {
    private static final String NEW = "";
    // Everything is somewhere in the middle: things in all four states, fixers at work, free and away, a text that goes on.
    private static final String BUSY = """
        come 35 3 | come 3 1 | come 4 2 | set 0 3 | set 1 3 | text 01;19p1,22;38p3!2;02,13p2!3;11p0!1 | bring | pass 1 | save 0
        away 2 true | pass 4 | come 8 2 | save 1 | stock 2 3 | text 01;4 | count 2 = 1 | count 3 = 2 | count 4 = 1 | count 5 = 1
        thing 0 0 = MENDED | thing 2 0 = GIVEN_UP | thing 4 0 = WAITING | thing 1 0 = BEING_DONE | fixer 2 2 = 0 | count 16 = 6
        """;
    // As much of everything as there can be; what is on the pad could be brought, if there was room.
    private static final String FULL = """
        set 0 50 | set 1 9 | 8x come 63 1 | text 02;01,02,03,04!3;03;04;05;06;07;08p1 | bring
        text 09!3;19;29;39;49p0;08,08,08,08!1;17;26p3 | bring | save 0 | pass 1 | save 1 | stock 0 97 | stock 1 98 | stock 2 97
        stock 3 97 | text 01p0,11p1,21p2,31p3!1;02p0,12p1,22p2,32p3!2;09,19,29,39!3;49 | fault = NONE | count 15 = 60
        count 1 = 16
        count 0 = 8 | count 9 = 99 | count 10 = 99 | count 11 = 99 | count 12 = 99 | count 16 = 6 | count 13 = 50 | count 14 = 9
        """;
    private static final String[] MORNINGS = {NEW, BUSY, FULL};
    private static final long[] FIXERS = {0, 4, 8};
    private static final long[] THINGS = {0, 5, 16};
    // How many steps each thing of the morning has.
    private static final String[] STEPS = {"", "12121", "1411111111111411"};
    private static final long LEAST = Integer.MIN_VALUE, MOST = Integer.MAX_VALUE;

    /** An argument of a call: its least and its largest value, and the error for every other. */
    private record Range(long least, long most, String error) {
        boolean has(long value) {
            return value >= least && value <= most;
        }

        /** What is just within, just outside and far outside; 256 and 65536 more are other numbers, too. */
        long[] values() {
            return new long[] {least, most, least - 1, most + 1, least + 256, least + 65536, LEAST, MOST};
        }
    }

    public static void main(String[] args) {
        for (int morning = 0; morning < MORNINGS.length; morning++) {
            changesOutOfRange(morning);
            questionsOutOfRange(morning);
            placesOutOfRange(morning);
            badCharacters(MORNINGS[morning]);
            nothingChanges(morning);
        }
        comeTooMany();
        awayNotPossible();
        bringRefused();
        stockTooMany();
        againNotPossible();
        putTooMany();
        undoNotPossible();
        restoreNotPossible();
        numbersThatAreNoMore();
        Checks.end("RefusalTest");
    }

    private static void changesOutOfRange(int morning) {
        outside(morning, "set 0", new Range(1, 50, "BAD_VALUE"));
        outside(morning, "set 1", new Range(1, 9, "BAD_VALUE"));
        outside(morning, "set", new Range(0, 1, "BAD_VALUE"), new Range(1, 9, ""));
        outside(morning, "come", new Range(1, 63, "BAD_VALUE"), new Range(1, 3, "BAD_VALUE"));
        outside(morning, "away", fixers(morning), new Range(0, 1, ""));
        outside(morning, "stock", new Range(0, 3, "NO_SUCH"), new Range(1, 99, "BAD_VALUE"));
        outside(morning, "again", things(morning));
        outside(morning, "pass", new Range(1, 200, "BAD_VALUE"));
    }

    private static void questionsOutOfRange(int morning) {
        outside(morning, "fixer", fixers(morning), new Range(0, 5, "BAD_VALUE"));
        outside(morning, "thing", things(morning), new Range(0, 7, "BAD_VALUE"));
        outside(morning, "step", things(morning), new Range(0, 0, "NO_SUCH"), new Range(0, 2, "BAD_VALUE"));
        outside(morning, "count", new Range(0, 16, "BAD_VALUE"));
        outside(morning, "plan", fixers(morning));
        outside(morning, "ifAway", fixers(morning));
        outside(morning, "bestSkill", new Range(0, 1, "BAD_VALUE"));
        outside(morning, "ifPassed", new Range(1, 200, "BAD_VALUE"), new Range(0, 2, "BAD_VALUE"));
        outside(morning, "bestPart", new Range(0, 1, "BAD_VALUE"));
        for (int thing = 0; thing < THINGS[morning]; thing++) {
            int steps = STEPS[morning].charAt(thing) - '0';
            String last = "step " + thing + " " + (steps - 1);
            String none = "step " + thing + " " + steps;
            Script.run("13 a step behind the last one", MORNINGS[morning] + last + " 0 | " + last + " 3 = BAD_VALUE | " + none
                + " 0 = NO_SUCH | " + none + " 3 = NO_SUCH | " + none + " -1 = NO_SUCH | step " + thing + " -1 0 = NO_SUCH");
        }
    }

    private static void placesOutOfRange(int morning) {
        outside(morning, "save", new Range(0, 1, "BAD_VALUE"));
        outside(morning, "restore", new Range(0, 1, "BAD_VALUE"));
    }

    private static Range fixers(int morning) {
        return new Range(0, FIXERS[morning] - 1, "NO_SUCH");
    }

    private static Range things(int morning) {
        return new Range(0, THINGS[morning] - 1, "NO_SUCH");
    }

    /** All the calls with values within and outside: of the errors, the one of the first argument outside is due. */
    private static void outside(int morning, String call, Range... ranges) {
        outside(MORNINGS[morning], call, "", 0, ranges);
    }

    private static void outside(String morning, String call, String due, int next, Range... ranges) {
        if (next == ranges.length) {
            if (!due.isEmpty()) {
                Script.run("refused", morning + call + " = " + due);
            }
            return;
        }
        Range range = ranges[next];
        for (long value : range.values()) {
            boolean isNumber = value >= LEAST && value <= MOST;
            boolean isChecked = !range.error.isEmpty() || range.has(value);
            if (isNumber && isChecked) {
                String error = due.isEmpty() && !range.has(value) ? range.error : due;
                outside(morning, call + " " + value, error, next + 1, ranges);
            }
        }
    }

    private static void badCharacters(String morning) {
        String[] bad = {"0", "0x20", "0x7f", "0x80", "0xff", "0x3100", "0x310000", "0x310031", "0x3120", "0x2031", "0x317f",
            "0x7f31", "-1", "LEAST", "0x8000000000000000", "0x7fffffffffffffff", "0xb131313131313131", "0x2031313131313131",
            "0x3131313131313120", "0x3131313131313100", "0x3100313131313131", "0x0100000000000031", "0x8000000000000031",
            "0x3131313100313131", "0x3131313120313131"};
        for (String characters : bad) {
            Script.run("22 BAD_VALUE", morning + "put " + characters + " = BAD_VALUE");
        }
    }

    /** "what there is; nothing changes", and plans and what-ifs, too. */
    private static void nothingChanges(int morning) {
        StringBuilder calls = new StringBuilder("planned | untilOver | fault | ifPassed 1 0 | ifPassed 200 2 | bestPart 0"
            + "| bestPart 1\n");
        calls.append("bestSkill 0 | bestSkill 1\n");
        for (int what = 0; what <= 16; what++) {
            calls.append("count ").append(what).append('\n');
        }
        for (int fixer = 0; fixer < FIXERS[morning]; fixer++) {
            calls.append("plan ").append(fixer).append(" | ifAway ").append(fixer);
            calls.append(" | fixer ").append(fixer).append(" 3\n");
        }
        for (int thing = 0; thing < THINGS[morning]; thing++) {
            calls.append("thing ").append(thing).append(" 2 | step ").append(thing).append(" 0 2\n");
        }
        Script.changesNothing("nothing changes", MORNINGS[morning], calls.toString());
    }

    private static void comeTooMany() {
        Script.run("3 TOO_MANY", FULL + "come 1 1 = TOO_MANY | come 63 3 = TOO_MANY");
        Script.run("3 BAD_VALUE goes before TOO_MANY", FULL + "come 0 1 = BAD_VALUE | come 64 3 = BAD_VALUE"
            + "| come 1 0 = BAD_VALUE"
            + "| come 63 4 = BAD_VALUE | come LEAST MOST = BAD_VALUE");
    }

    private static void awayNotPossible() {
        Script.run("4 NOT_POSSIBLE", BUSY + "away 2 true = NOT_POSSIBLE | away 0 false = NOT_POSSIBLE"
            + "| away 3 false = NOT_POSSIBLE"
            + "| away 4 false = NO_SUCH | away 4 true = NO_SUCH | away -1 false = NO_SUCH");
        Script.run("4 NOT_POSSIBLE", FULL + "away 7 false = NOT_POSSIBLE | away 7 true = 127 | away 7 true = NOT_POSSIBLE");
    }

    private static void bringRefused() {
        String[] bad = {"x", "0", "01;", "01,", "01p", "01!", "5", "00", "01p4", "01!4", "01,02,03,04,", "01!1!",
            ";01", "01;;02"};
        for (String text : bad) {
            Script.run("5 BAD_TEXT", "text " + text + " | bring = BAD_TEXT");
            Script.run("5 BAD_TEXT", BUSY + "wipe = 4 | text " + text + " | bring = BAD_TEXT");
            Script.run("5 BAD_TEXT goes before TOO_MANY", FULL + "wipe = 60 | text " + text + " | bring = BAD_TEXT");
        }
        Script.run("5 BAD_TEXT, of an empty pad", "bring = BAD_TEXT");
        Script.run("5 BAD_TEXT, of a text that ends too early", BUSY + "fault = 4 | bring = BAD_TEXT | text 9 = 5 | bring = 7");
        Script.run("5 BAD_TEXT, of an empty pad, goes before TOO_MANY", FULL + "wipe = 60 | bring = BAD_TEXT");
        Script.run("5 TOO_MANY", FULL + "bring = TOO_MANY | wipe = 60 | text 01 = 2 | bring = TOO_MANY");
        Script.run("5 TOO_MANY, though some would have room", BUSY + "wipe = 4 | text 01;02;03;04;05;06;07;08;09;11;12;13 = 35"
            + "| bring = TOO_MANY | wipe = 35 | text 01;02;03;04;05;06;07;08;09;11;12 = 32 | bring = 16");
    }

    private static void stockTooMany() {
        for (int part = 0; part < 4; part++) {
            Script.run("6 TOO_MANY", FULL + "stock " + part + " 1 = TOO_MANY | stock " + part + " 99 = TOO_MANY");
            Script.run("6 BAD_VALUE goes before TOO_MANY", FULL + "stock " + part + " 0 = BAD_VALUE"
            + "| stock " + part + " 100 = BAD_VALUE");
            Script.run("6 TOO_MANY", "stock " + part + " 98 = TOO_MANY | stock " + part + " 99 = TOO_MANY"
            + "| stock " + part + " 97 = 99");
        }
        Script.run("6 NO_SUCH goes before BAD_VALUE and TOO_MANY", FULL + "stock 4 0 = NO_SUCH | stock 4 1 = NO_SUCH"
            + "| stock -1 100 = NO_SUCH"
            + "| stock -1 99 = NO_SUCH");
    }

    private static void againNotPossible() {
        Script.run("7 NOT_POSSIBLE", BUSY + "again 0 = NOT_POSSIBLE | again 1 = NOT_POSSIBLE | again 3 = NOT_POSSIBLE"
            + "| again 4 = NOT_POSSIBLE"
            + "| again 5 = NO_SUCH | again -1 = NO_SUCH | again 2 = 2 | again 2 = NOT_POSSIBLE");
        Script.run("7 NOT_POSSIBLE", FULL + "again 0 = NOT_POSSIBLE | again 15 = NOT_POSSIBLE | again 16 = NO_SUCH");
    }

    private static void putTooMany() {
        Script.run("22 TOO_MANY", FULL + "put 0x30 = TOO_MANY | put 0x3030303030303030 = TOO_MANY | put 0x7e7e = TOO_MANY");
        for (int length = 53; length <= 60; length++) {
            String text = "01,02,03,04!3;".repeat(5).substring(0, length);
            int room = 60 - length;
            Script.run("22 TOO_MANY by one", "text " + text + " = " + length + " | text " + "1".repeat(room + 1) + " = TOO_MANY"
                + (room == 0 ? "" : " | text " + "1".repeat(room) + " = 60") + " | put 0x31 = TOO_MANY | put 0x20 = BAD_VALUE");
        }
    }

    private static void undoNotPossible() {
        Script.run("25 NOT_POSSIBLE", "undo = NOT_POSSIBLE | save 0 | text 01 | undo = NOT_POSSIBLE");
        Script.run("25 NOT_POSSIBLE", BUSY + "undo = 5 | undo = 4 | undo = 3 | undo = 2 | undo = 1 | undo = 0"
            + "| undo = NOT_POSSIBLE");
        Script.run("25 NOT_POSSIBLE", FULL + "undo = 5 | undo = 4 | undo = 3 | undo = 2 | undo = 1 | undo = 0"
            + "| undo = NOT_POSSIBLE");
    }

    private static void restoreNotPossible() {
        Script.run("27 NOT_POSSIBLE", "restore 0 = NOT_POSSIBLE | restore 1 = NOT_POSSIBLE");
        Script.run("27 NOT_POSSIBLE at the other place", "come 1 1 | save 0 = 0 | restore 1 = NOT_POSSIBLE | come 1 1"
            + "| restore 0 = 0");
        Script.run("27 NOT_POSSIBLE at the other place", "come 1 1 | save 1 = 0 | restore 0 = NOT_POSSIBLE | come 1 1"
            + "| restore 1 = 0");
        Script.run("27 BAD_VALUE goes before NOT_POSSIBLE", "restore 2 = BAD_VALUE | restore -1 = BAD_VALUE"
            + "| restore MOST = BAD_VALUE");
    }

    /** What was undone or cleared is no such fixer, and no such thing. */
    private static void numbersThatAreNoMore() {
        Script.run("4 NO_SUCH for one who was undone", BUSY + "undo = 5 | undo = 4 | fixer 3 0 = NO_SUCH"
            + "| away 3 true = NO_SUCH"
            + "| away 3 false = NO_SUCH | plan 3 = NO_SUCH | ifAway 3 = NO_SUCH | fixer 3 6 = NO_SUCH");
        Script.run("7 NO_SUCH for one that was cleared", BUSY + "clear = 5 | again 2 = NO_SUCH | thing 2 0 = NO_SUCH"
            + "| step 2 0 0 = NO_SUCH"
            + "| thing 0 8 = NO_SUCH | step 0 0 3 = NO_SUCH");
    }
}
