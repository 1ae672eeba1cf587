/** Promises 1 to 10: a new object and the changes. */
public final class ChangesTest {
    private static final int NO_SUCH = -1, BAD_VALUE = -2, BAD_TEXT = -3, TOO_MANY = -4, NOT_POSSIBLE = -5, NONE = -6;
    private static final int LEAST = Integer.MIN_VALUE, MOST = Integer.MAX_VALUE;

    public static void main(String[] args) {
        promise1NewObject();
        promise2Set();
        promise2PatienceInForce();
        promise2TestInForce();
        promise3Come();
        promise4Away();
        promise4AwayGoesOnButTakesNothing();
        promise5Bring();
        promise5BringTooMany();
        promise6Stock();
        promise7Again();
        promise7AgainKeepsStepAndTests();
        promise8Pass();
        promise8Work();
        promise8Weakness();
        promise8WhoTakesWhat();
        promise8Parts();
        promise8GivenUp();
        promise8LongestWaiting();
        promise9GiveOut();
        promise9PartGone();
        promise10Clear();
        Checks.end("ChangesTest");
    }

    private static void promise1NewObject() {
        MendingMornings x = new MendingMornings();
        Checks.dueRow("1 counts", Checks.counts(x), 0, 0, 0, 0, 0, 0, 0, 0, 0, 2, 2, 2, 2, 6, 2, 0, 0);
        Checks.due("1 fixer", x.fixer(0, 0), NO_SUCH);
        Checks.due("1 thing", x.thing(0, 0), NO_SUCH);
        Checks.due("1 undo", x.undo(), NOT_POSSIBLE);
        Checks.due("1 restore", x.restore(0), NOT_POSSIBLE);
        Checks.due("1 restore", x.restore(1), NOT_POSSIBLE);
        MendingMornings y = new MendingMornings();
        x.come(1, 1);
        Checks.due("1 the other object", y.count(0), 0);
    }

    private static void promise2Set() {
        MendingMornings x = new MendingMornings();
        Checks.due("2 set(PATIENCE, 1)", x.set(MendingMornings.PATIENCE, 1), 6);
        Checks.due("2 set(PATIENCE, 50)", x.set(0, 50), 1);
        Checks.due("2 set(TEST, 1)", x.set(MendingMornings.TEST, 1), 2);
        Checks.due("2 set(TEST, 9)", x.set(1, 9), 1);
        Checks.due("2 count(13)", x.count(13), 50);
        Checks.due("2 count(14)", x.count(14), 9);
        Checks.due("2 changes", x.count(16), 4);
        int[][] bad = {{0, 0}, {0, 51}, {0, -1}, {0, LEAST}, {0, MOST}, {1, 0}, {1, 10}, {1, LEAST}, {1, MOST},
            {2, 1}, {-1, 1}, {LEAST, 1}, {MOST, 1}, {2, 0}};
        for (int[] row : bad) {
            Checks.due("2 set(" + row[0] + ", " + row[1] + ")", x.set(row[0], row[1]), BAD_VALUE);
        }
        Checks.due("2 nothing changed", x.count(13), 50);
        Checks.due("2 nothing changed", x.count(14), 9);
        Checks.due("2 nothing recorded", x.count(16), 4);
        Checks.due("2 set to the same", x.set(0, 50), 50);
        Checks.due("2 recorded all the same", x.count(16), 5);
    }

    private static void promise2PatienceInForce() {
        for (int patience = 1; patience <= 50; patience += 7) {
            MendingMornings x = new MendingMornings();
            x.set(0, patience);
            Checks.bring(x, "01");
            x.pass(patience);
            Checks.due("2 still waits", x.thing(0, 0), 0);
            Checks.due("2 waited", x.thing(0, 3), patience);
            x.pass(1);
            Checks.due("2 given up", x.thing(0, 0), 3);
            Checks.due("2 waited", x.thing(0, 3), 0);
        }
        MendingMornings x = new MendingMornings();
        Checks.bring(x, "01");
        x.pass(5);
        x.set(0, 2);
        Checks.due("2 a smaller patience gives up nothing yet", x.thing(0, 3), 5);
        x.pass(1);
        Checks.due("2 but in the next slot", x.thing(0, 0), 3);
    }

    private static void promise2TestInForce() {
        MendingMornings x = new MendingMornings();
        x.come(63, 1);
        Checks.bring(x, "01");
        x.pass(1);
        x.set(1, 4);
        x.pass(1);
        Checks.due("2 the test's work is that of its taking", x.fixer(0, 4), 4);
        x.set(1, 9);
        Checks.due("2 not that of a later setting", x.fixer(0, 4), 4);
        Checks.due("2 mended", x.pass(3), 0);
        Checks.due("2 mended", x.pass(1), 1);
    }

    private static void promise3Come() {
        MendingMornings x = new MendingMornings();
        int[][] bad = {{0, 1}, {64, 1}, {-1, 1}, {LEAST, 1}, {MOST, 1}, {1, 0}, {1, 4}, {1, -1}, {1, LEAST}, {1, MOST}};
        for (int[] row : bad) {
            Checks.due("3 come(" + row[0] + ", " + row[1] + ")", x.come(row[0], row[1]), BAD_VALUE);
        }
        Checks.due("3 nothing changed", x.count(0), 0);
        Checks.due("3 nothing recorded", x.count(16), 0);
        Checks.due("3 come", x.come(1, 1), 0);
        Checks.due("3 come", x.come(63, 3), 1);
        Checks.dueRow("3 fixer 0", Checks.fixerRow(x, 0), 1, 1, 1, NONE, 0, 0);
        Checks.dueRow("3 fixer 1", Checks.fixerRow(x, 1), 63, 3, 1, NONE, 0, 0);
        for (int i = 2; i < 8; i++) {
            Checks.due("3 come", x.come(i, 2), i);
        }
        Checks.due("3 a ninth", x.come(1, 1), TOO_MANY);
        Checks.due("3 a bad ninth", x.come(0, 1), BAD_VALUE);
        Checks.due("3 a bad ninth", x.come(1, 4), BAD_VALUE);
        Checks.due("3 fixers", x.count(0), 8);
        Checks.dueRow("3 fixer 7", Checks.fixerRow(x, 7), 7, 2, 1, NONE, 0, 0);
        Checks.due("3 undo", x.undo(), 5);
        Checks.due("3 fixers", x.count(0), 7);
        Checks.due("3 come again", x.come(9, 3), 7);
        Checks.dueRow("3 fixer 7", Checks.fixerRow(x, 7), 9, 3, 1, NONE, 0, 0);
        MendingMornings y = new MendingMornings();
        y.come(1, 1);
        Checks.bring(y, "01;02");
        y.pass(2);
        y.away(0, true);
        Checks.dueRow("3 at work", Checks.fixerRow(y, 0), 1, 1, 0, 1, 2, 1);
        while (y.count(0) > 0 && y.undo() >= 0) {
            Checks.due("3 undone", y.count(16) < 4 ? 1 : 0, 1);
        }
        Checks.due("3 another one comes", y.come(2, 2), 0);
        Checks.dueRow("3 nothing is left of the one before", Checks.fixerRow(y, 0), 2, 2, 1, NONE, 0, 0);
    }

    private static void promise4Away() {
        MendingMornings x = new MendingMornings();
        for (int i = 0; i < 3; i++) {
            x.come(1, 1);
        }
        Checks.due("4 away(3)", x.away(3, true), NO_SUCH);
        Checks.due("4 away(-1)", x.away(-1, true), NO_SUCH);
        Checks.due("4 away(least)", x.away(LEAST, false), NO_SUCH);
        Checks.due("4 away(most)", x.away(MOST, false), NO_SUCH);
        Checks.due("4 there already", x.away(1, false), NOT_POSSIBLE);
        Checks.due("4 nothing recorded", x.count(16), 3);
        Checks.due("4 away(1)", x.away(1, true), 5);
        Checks.due("4 away already", x.away(1, true), NOT_POSSIBLE);
        Checks.due("4 is there", x.fixer(1, 2), 0);
        Checks.due("4 free and there", x.count(6), 2);
        Checks.due("4 away(0)", x.away(0, true), 4);
        Checks.due("4 away(2)", x.away(2, true), 0);
        Checks.due("4 there(1)", x.away(1, false), 2);
        Checks.due("4 is there", x.fixer(1, 2), 1);
        Checks.due("4 fixers", x.count(0), 3);
    }

    private static void promise4AwayGoesOnButTakesNothing() {
        MendingMornings x = new MendingMornings();
        x.come(63, 1);
        Checks.bring(x, "02;01");
        x.pass(1);
        Checks.due("4 away", x.away(0, true), 0);
        Checks.due("4 goes on", x.fixer(0, 3), 0);
        x.pass(1);
        Checks.due("4 goes on", x.fixer(0, 4), 1);
        x.pass(2);
        Checks.dueRow("4 takes nothing more", Checks.fixerRow(x, 0), 63, 1, 0, NONE, 0, 1);
        Checks.dueRow("4 the thing waits", Checks.thingRow(x, 0), 0, 1, 1, 2, 0, 0, NONE, 1);
        Checks.due("4 no free one there", x.count(6), 0);
        Checks.due("4 no plan", x.plan(0), NONE);
    }

    private static void promise5Bring() {
        MendingMornings x = new MendingMornings();
        x.come(2, 1);
        Checks.due("5 empty pad", x.bring(), BAD_TEXT);
        Checks.write(x, "01;");
        Checks.due("5 fault", x.bring(), BAD_TEXT);
        Checks.due("5 the pad stays", x.count(15), 3);
        Checks.due("5 nothing recorded", x.count(16), 1);
        Checks.write(x, "19p3,42,05p0,13!3;48!0");
        Checks.due("5 bring", x.bring(), 3);
        Checks.due("5 the pad is empty", x.count(15), 0);
        Checks.due("5 recorded", x.count(16), 2);
        Checks.dueRow("5 thing 0", Checks.thingRow(x, 0), 0, 1, 0, 0, 0, 0, NONE, 0);
        Checks.dueRow("5 thing 1", Checks.thingRow(x, 1), 0, 4, 0, 0, 0, 3, NONE, 1);
        Checks.dueRow("5 thing 2", Checks.thingRow(x, 2), 0, 1, 0, 0, 0, 0, NONE, 0);
        int[][] steps = {{0, 0, 0, 1, NONE}, {1, 0, 1, 9, 3}, {1, 1, 4, 2, NONE}, {1, 2, 0, 5, 0}, {1, 3, 1, 3, NONE},
            {2, 0, 4, 8, NONE}};
        for (int[] row : steps) {
            for (int what = 0; what < 3; what++) {
                Checks.due("5 step", x.step(row[0], row[1], what), row[2 + what]);
            }
        }
        Checks.due("5 one more", Checks.bring(x, "33p2!2"), 4);
        Checks.dueRow("5 thing 3", Checks.thingRow(x, 3), 0, 1, 0, 0, 0, 2, NONE, 0);
        Checks.due("5 its part", x.step(3, 0, 2), 2);
    }

    private static void promise5BringTooMany() {
        MendingMornings x = new MendingMornings();
        Checks.write(x, "01;02;03;04;05;06;07;08;09;11;12;13;14;15;16;17;18");
        Checks.due("5 seventeen", x.bring(), TOO_MANY);
        Checks.due("5 the pad stays", x.count(15), 50);
        Checks.due("5 no things", x.count(1), 0);
        x.wipe();
        Checks.write(x, "01;02;03;04;05;06;07;08;09;11;12;13;14;15;16;17;18;19;21;22");
        Checks.due("5 twenty", x.bring(), TOO_MANY);
        x.wipe();
        Checks.due("5 sixteen", Checks.bring(x, "01;02;03;04;05;06;07;08;09;11;12;13;14;15;16;17!2"), 16);
        Checks.due("5 the last one's skill", x.step(15, 0, 0), 1);
        Checks.due("5 the last one's weakness", x.thing(15, 5), 2);
        Checks.due("5 one more", Checks.bring(x, "01"), TOO_MANY);
        Checks.due("5 the pad stays", x.count(15), 2);
        x.wipe();
        Checks.due("5 the fault first", Checks.bring(x, "01;"), BAD_TEXT);
        x.pass(7);
        Checks.due("5 given up ones count, too", x.count(5), 16);
        x.wipe();
        Checks.due("5 one more", Checks.bring(x, "01"), TOO_MANY);
        Checks.due("5 clear", x.clear(), 16);
        Checks.due("5 from 0 again", x.bring(), 1);
        Checks.dueRow("5 as new", Checks.thingRow(x, 0), 0, 1, 0, 0, 0, 0, NONE, 0);
    }

    private static void promise6Stock() {
        MendingMornings x = new MendingMornings();
        int[][] calls = {{4, 1, NO_SUCH}, {-1, 1, NO_SUCH}, {LEAST, 0, NO_SUCH}, {MOST, 100, NO_SUCH}, {0, 0, BAD_VALUE},
            {0, 100, BAD_VALUE}, {3, -1, BAD_VALUE}, {1, LEAST, BAD_VALUE}, {2, MOST, BAD_VALUE}, {0, 98, TOO_MANY},
            {0, 99, TOO_MANY}, {0, 97, 99}, {0, 1, TOO_MANY}, {3, 1, 3}, {3, 5, 8}, {2, 90, 92}, {2, 8, TOO_MANY}, {2, 7, 99}};
        for (int[] row : calls) {
            Checks.due("6 stock(" + row[0] + ", " + row[1] + ")", x.stock(row[0], row[1]), row[2]);
        }
        Checks.due("6 part 0", x.count(9), 99);
        Checks.due("6 part 1", x.count(10), 2);
        Checks.due("6 part 2", x.count(11), 99);
        Checks.due("6 part 3", x.count(12), 8);
        Checks.due("6 changes", x.count(16), 5);
    }

    private static void promise7Again() {
        MendingMornings x = new MendingMornings();
        x.set(0, 1);
        Checks.bring(x, "01;02;03");
        Checks.due("7 again(3)", x.again(3), NO_SUCH);
        Checks.due("7 again(-1)", x.again(-1), NO_SUCH);
        Checks.due("7 again(least)", x.again(LEAST), NO_SUCH);
        Checks.due("7 again(most)", x.again(MOST), NO_SUCH);
        Checks.due("7 a waiting one", x.again(0), NOT_POSSIBLE);
        x.pass(2);
        Checks.due("7 given up", x.count(5), 3);
        int changes = x.count(16);
        Checks.due("7 again(2)", x.again(2), 1);
        Checks.due("7 again(2) once more", x.again(2), NOT_POSSIBLE);
        Checks.due("7 recorded once", x.count(16), changes + 1);
        Checks.due("7 again(0)", x.again(0), 2);
        Checks.dueRow("7 thing 2", Checks.thingRow(x, 2), 0, 1, 0, 0, 0, 0, NONE, 0);
        x.come(1, 1);
        x.pass(1);
        Checks.due("7 being done", x.again(0), NOT_POSSIBLE);
        x.come(63, 3);
        x.pass(1);
        x.pass(1);
        Checks.due("7 mended", x.thing(0, 0), 2);
        Checks.due("7 mended", x.again(0), NOT_POSSIBLE);
    }

    private static void promise7AgainKeepsStepAndTests() {
        MendingMornings x = new MendingMornings();
        x.come(63, 3);
        x.set(0, 2);
        Checks.bring(x, "01,12!2");
        x.pass(4);
        Checks.dueRow("7 failed a test", Checks.thingRow(x, 0), 1, 2, 1, 0, 1, 2, 0, 1);
        x.pass(1);
        x.away(0, true);
        x.pass(4);
        Checks.dueRow("7 failed two", Checks.thingRow(x, 0), 3, 2, 1, 0, 2, 2, NONE, 1);
        Checks.due("7 again", x.again(0), 1);
        Checks.dueRow("7 its step is as it was", Checks.thingRow(x, 0), 0, 2, 1, 0, 2, 2, NONE, 1);
        x.pass(1);
        Checks.due("7 waits from 0", x.thing(0, 3), 1);
        x.away(0, false);
        Checks.due("7 two more steps", x.pass(3), 1);
    }

    private static void promise8Pass() {
        MendingMornings x = new MendingMornings();
        int[] bad = {0, 201, -1, LEAST, MOST};
        for (int slots : bad) {
            Checks.due("8 pass(" + slots + ")", x.pass(slots), BAD_VALUE);
        }
        Checks.due("8 nothing recorded", x.count(16), 0);
        Checks.due("8 pass(1)", x.pass(1), 0);
        Checks.due("8 slots", x.count(7), 1);
        Checks.due("8 pass(200)", x.pass(200), 0);
        Checks.due("8 slots", x.count(7), 201);
        Checks.due("8 changes", x.count(16), 2);
        x.come(63, 3);
        Checks.bring(x, "01;01;01");
        Checks.due("8 pass(200)", x.pass(200), 3);
        Checks.due("8 slots", x.count(7), 401);
        Checks.due("8 only those of these slots", x.pass(200), 0);
        Checks.due("8 slots", x.count(7), 601);
    }

    private static void promise8Work() {
        for (int speed = 1; speed <= 3; speed++) {
            for (int work = 1; work <= 9; work++) {
                MendingMornings x = new MendingMornings();
                x.come(1, speed);
                Checks.bring(x, "0" + work);
                x.pass(1);
                Checks.dueRow("8 all the work is left", Checks.fixerRow(x, 0), 1, speed, 1, 0, work, 0);
                Checks.dueRow("8 being done", Checks.thingRow(x, 0), 1, 1, 0, 0, 0, 0, 0, 1);
                int left = work - speed;
                while (left > 0) {
                    x.pass(1);
                    Checks.due("8 work left", x.fixer(0, 4), left);
                    left -= speed;
                }
                x.pass(1);
                Checks.dueRow("8 done", Checks.fixerRow(x, 0), 1, speed, 1, NONE, 0, 1);
                Checks.dueRow("8 waits for its test", Checks.thingRow(x, 0), 0, 1, 1, 1, 0, 0, NONE, 0);
            }
        }
    }

    private static void promise8Weakness() {
        for (int weakness = 0; weakness <= 3; weakness++) {
            MendingMornings x = new MendingMornings();
            x.come(63, 3);
            x.stock(1, 9);
            Checks.bring(x, "01p0,11p1!" + weakness);
            x.pass(2);
            for (int failed = 0; failed < weakness; failed++) {
                Checks.dueRow("8 its last step", Checks.thingRow(x, 0), 1, 2, 1, 0, failed, weakness, 0, 1);
                x.pass(1);
                Checks.dueRow("8 its test", Checks.thingRow(x, 0), 1, 2, 2, 0, failed, weakness, 0, 1);
                Checks.due("8 no test failed yet", x.count(8), failed);
                Checks.due("8 not mended", x.pass(1), 0);
                Checks.due("8 tests failed", x.count(8), failed + 1);
            }
            x.pass(1);
            Checks.due("8 mended", x.pass(1), 1);
            Checks.dueRow("8 mended", Checks.thingRow(x, 0), 2, 2, NONE, 0, weakness, weakness, NONE, 0);
            Checks.due("8 steps done", x.fixer(0, 5), 3 + 2 * weakness);
            Checks.due("8 part 0 once", x.count(9), 1);
            Checks.due("8 part 1 each time", x.count(10), 10 - weakness);
        }
    }

    private static void promise8WhoTakesWhat() {
        MendingMornings x = new MendingMornings();
        x.come(2, 1);
        x.come(3, 1);
        x.come(3, 1);
        Checks.bring(x, "05;15;05");
        x.pass(1);
        Checks.due("8 fixer 0", x.fixer(0, 3), 1);
        Checks.due("8 fixer 1", x.fixer(1, 3), 0);
        Checks.due("8 fixer 2", x.fixer(2, 3), 2);
        Checks.due("8 free", x.count(6), 0);
        // In one slot a step ends, and another fixer, with a lower number, takes the thing.
        MendingMornings y = new MendingMornings();
        y.come(32, 1);
        y.come(1, 1);
        Checks.bring(y, "01");
        y.pass(2);
        Checks.due("8 the test is taken at once", y.fixer(0, 3), 0);
        Checks.due("8 the other one is free", y.fixer(1, 3), NONE);
        Checks.due("8 waited", y.thing(0, 3), 0);
    }

    private static void promise8Parts() {
        MendingMornings x = new MendingMornings();
        for (int i = 0; i < 4; i++) {
            x.come(1, 1);
        }
        Checks.bring(x, "09p2;09p2;09p2;09p3");
        x.pass(1);
        Checks.due("8 part 2 is gone", x.count(11), 0);
        Checks.due("8 part 3", x.count(12), 1);
        Checks.due("8 fixer 0", x.fixer(0, 3), 0);
        Checks.due("8 fixer 1", x.fixer(1, 3), 1);
        Checks.due("8 fixer 2", x.fixer(2, 3), 3);
        Checks.due("8 fixer 3", x.fixer(3, 3), NONE);
        Checks.due("8 thing 2 waits", x.thing(2, 3), 1);
        x.stock(2, 1);
        x.pass(1);
        Checks.due("8 with a part", x.fixer(3, 3), 2);
        Checks.due("8 part 2 is gone", x.count(11), 0);
    }

    private static void promise8GivenUp() {
        MendingMornings x = new MendingMornings();
        x.come(1, 1);
        Checks.bring(x, "19;01");
        x.pass(6);
        Checks.dueRow("8 waits", Checks.thingRow(x, 0), 0, 1, 0, 6, 0, 0, NONE, 0);
        Checks.dueRow("8 waits for its test", Checks.thingRow(x, 1), 0, 1, 1, 5, 0, 0, NONE, 0);
        x.pass(1);
        Checks.dueRow("8 given up", Checks.thingRow(x, 0), 3, 1, 0, 0, 0, 0, NONE, 0);
        Checks.due("8 the other one waits", x.thing(1, 3), 6);
        x.come(63, 1);
        x.pass(1);
        Checks.due("8 the other one is taken", x.fixer(1, 3), 1);
        Checks.due("8 the given up one stays so", x.count(5), 1);
        Checks.due("8 mended", x.pass(2), 1);
    }

    private static void promise8LongestWaiting() {
        MendingMornings x = new MendingMornings();
        Checks.bring(x, "02;12");
        x.pass(2);
        Checks.bring(x, "03;04");
        x.come(2, 1);
        x.pass(1);
        Checks.due("8 thing 1", x.fixer(0, 3), 1);
        x.away(0, true);
        x.pass(3);
        Checks.due("8 thing 1 waits anew", x.thing(1, 3), 2);
        x.come(33, 1);
        x.come(1, 1);
        x.come(63, 1);
        Checks.due("8 thing 0 waited", x.thing(0, 3), 6);
        x.pass(1);
        Checks.due("8 the one that waited longest", x.fixer(1, 3), 0);
        Checks.due("8 of several the lowest", x.fixer(2, 3), 2);
        Checks.due("8 longer, with a higher number", x.fixer(3, 3), 3);
    }

    private static void promise9GiveOut() {
        MendingMornings x = new MendingMornings();
        Checks.due("9 nobody", x.giveOut(), 0);
        Checks.due("9 recorded", x.count(16), 1);
        x.come(3, 1);
        x.come(1, 2);
        x.come(32, 1);
        Checks.bring(x, "07p1;16p1");
        x.set(0, 2);
        x.pass(2);
        x.undo();
        Checks.due("9 two", x.giveOut(), 2);
        Checks.dueRow("9 fixer 0", Checks.fixerRow(x, 0), 3, 1, 1, 1, 6, 0);
        Checks.dueRow("9 fixer 1", Checks.fixerRow(x, 1), 1, 2, 1, 0, 7, 0);
        Checks.dueRow("9 fixer 2", Checks.fixerRow(x, 2), 32, 1, 1, NONE, 0, 0);
        Checks.due("9 parts", x.count(10), 0);
        Checks.due("9 being done", x.count(3), 2);
        Checks.due("9 slots", x.count(7), 0);
        Checks.due("9 nothing more", x.giveOut(), 0);
        x.set(1, 7);
        x.pass(6);
        Checks.due("9 the test waits or is done", x.thing(0, 2), 1);
        MendingMornings y = new MendingMornings();
        y.come(63, 1);
        Checks.bring(y, "01");
        y.giveOut();
        y.away(0, true);
        y.pass(1);
        Checks.due("9 waited", y.thing(0, 3), 1);
        y.away(0, false);
        y.set(1, 5);
        Checks.due("9 a test", y.giveOut(), 1);
        Checks.due("9 its work", y.fixer(0, 4), 5);
        Checks.due("9 it does not wait", y.thing(0, 3), 0);
    }

    private static void promise9PartGone() {
        MendingMornings x = new MendingMornings();
        for (int i = 0; i < 4; i++) {
            x.come(1, 1);
        }
        Checks.bring(x, "01p0;01p0;01p0;01p3");
        Checks.due("9 planned", x.planned(), 4);
        Checks.due("9 the third has no part", x.giveOut(), 3);
        Checks.due("9 fixer 1", x.fixer(1, 3), 1);
        Checks.due("9 fixer 2", x.fixer(2, 3), NONE);
        Checks.due("9 fixer 3", x.fixer(3, 3), 3);
        Checks.due("9 thing 2 waits", x.thing(2, 0), 0);
        Checks.due("9 stock", x.count(9), 0);
        Checks.due("9 stock", x.count(12), 1);
    }

    private static void promise10Clear() {
        MendingMornings x = new MendingMornings();
        Checks.due("10 nothing", x.clear(), 0);
        Checks.due("10 recorded", x.count(16), 1);
        x.come(33, 2);
        x.come(1, 3);
        x.away(1, true);
        x.set(0, 9);
        x.set(1, 1);
        Checks.bring(x, "01p0!1;49p1");
        x.pass(3);
        Checks.dueRow("10 busy", Checks.fixerRow(x, 0), 33, 2, 1, 0, 1, 2);
        Checks.write(x, "02");
        Checks.due("10 clear", x.clear(), 2);
        Checks.dueRow("10 counts", Checks.counts(x), 2, 0, 0, 0, 0, 0, 1, 0, 1, 0, 2, 2, 2, 9, 1, 2, 6);
        Checks.dueRow("10 fixer 0", Checks.fixerRow(x, 0), 33, 2, 1, NONE, 0, 2);
        Checks.dueRow("10 fixer 1", Checks.fixerRow(x, 1), 1, 3, 0, NONE, 0, 0);
        Checks.due("10 no thing", x.thing(0, 0), NO_SUCH);
        Checks.due("10 no thing", x.again(0), NO_SUCH);
        Checks.due("10 it is over", x.untilOver(), 0);
        Checks.due("10 numbers from 0", x.bring(), 1);
        Checks.due("10 undo", x.undo(), 5);
        Checks.due("10 undo", x.undo(), 4);
        Checks.due("10 the things are back", x.count(1), 2);
        Checks.dueRow("10 busy", Checks.fixerRow(x, 0), 33, 2, 1, 0, 1, 2);
        Checks.due("10 slots", x.count(7), 3);
    }
}
