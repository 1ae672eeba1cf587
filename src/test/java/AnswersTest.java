/** Promises 11 to 21: what there is, plans, and what would be. None of them changes anything. */
public final class AnswersTest {
    private static final int NO_SUCH = -1, BAD_VALUE = -2, NONE = -6;
    private static final int LEAST = Integer.MIN_VALUE, MOST = Integer.MAX_VALUE;
    // The slots that one fixer of speed 1 needs for a thing of the long morning: its steps, its weakness, and its test.
    private static final int WHOLE = 4 * 9 + 3 * (9 + 9) + 9;

    public static void main(String[] args) {
        promise11Fixer();
        promise12Thing();
        promise13Step();
        promise14Count();
        promise15Plan();
        promise15WhoCanTake();
        promise15LowestThings();
        promise16Planned();
        promise17IfAway();
        promise18BestSkill();
        promise18NinthFixer();
        promise19IfPassed();
        promise20UntilOver();
        promise20Within500();
        promise21BestPart();
        promise21Above99();
        promise21Within500();
        Checks.end("AnswersTest");
    }

    private static void promise11Fixer() {
        MendingMornings x = new MendingMornings();
        x.come(35, 2);
        x.come(4, 3);
        int[] nobody = {-1, 2, 8, LEAST, MOST};
        for (int fixer : nobody) {
            Checks.due("11 no such fixer", x.fixer(fixer, 0), NO_SUCH);
            Checks.due("11 no such fixer, nor what", x.fixer(fixer, 6), NO_SUCH);
        }
        int[] nothing = {-1, 6, 7, LEAST, MOST};
        for (int what : nothing) {
            Checks.due("11 no such what", x.fixer(1, what), BAD_VALUE);
        }
        Checks.bring(x, "25;09!1");
        x.away(1, true);
        x.pass(1);
        Checks.dueRow("11 fixer 0", Checks.fixerRow(x, 0), 35, 2, 1, 1, 9, 0);
        Checks.dueRow("11 fixer 1", Checks.fixerRow(x, 1), 4, 3, 0, NONE, 0, 0);
        x.pass(1);
        Checks.dueRow("11 fixer 0", Checks.fixerRow(x, 0), 35, 2, 1, 1, 7, 0);
        x.pass(4);
        Checks.dueRow("11 the test", Checks.fixerRow(x, 0), 35, 2, 1, 1, 2, 1);
        x.pass(1);
        Checks.dueRow("11 a failed test is done, too", Checks.fixerRow(x, 0), 35, 2, 1, 1, 9, 2);
    }

    private static void promise12Thing() {
        MendingMornings x = new MendingMornings();
        Checks.bring(x, "05!1;11,42;33!3");
        int[] none = {-1, 3, 16, LEAST, MOST};
        for (int thing : none) {
            Checks.due("12 no such thing", x.thing(thing, 0), NO_SUCH);
            Checks.due("12 no such thing, nor what", x.thing(thing, 8), NO_SUCH);
        }
        int[] nothing = {-1, 8, 9, LEAST, MOST};
        for (int what : nothing) {
            Checks.due("12 no such what", x.thing(2, what), BAD_VALUE);
        }
        x.come(1, 3);
        x.come(2, 3);
        x.come(33, 1);
        x.come(16, 1);
        x.away(0, true);
        x.away(3, true);
        x.pass(1);
        Checks.dueRow("12 thing 0", Checks.thingRow(x, 0), 1, 1, 0, 0, 0, 1, 2, 5);
        Checks.dueRow("12 thing 1", Checks.thingRow(x, 1), 1, 2, 0, 0, 0, 0, 1, 2);
        Checks.dueRow("12 thing 2", Checks.thingRow(x, 2), 0, 1, 0, 1, 0, 3, NONE, 0);
        x.pass(6);
        Checks.dueRow("12 thing 0 is tested", Checks.thingRow(x, 0), 1, 1, 1, 0, 0, 1, 2, 4);
        Checks.dueRow("12 thing 1 waits", Checks.thingRow(x, 1), 0, 2, 1, 6, 0, 0, NONE, 8);
        Checks.dueRow("12 thing 2 is given up", Checks.thingRow(x, 2), 3, 1, 0, 0, 0, 3, NONE, 0);
        x.pass(1);
        Checks.dueRow("12 thing 0 failed", Checks.thingRow(x, 0), 1, 1, 0, 0, 1, 1, 2, 5);
        Checks.dueRow("12 thing 1 is given up", Checks.thingRow(x, 1), 3, 2, 1, 0, 0, 0, NONE, 8);
        x.pass(7);
        Checks.dueRow("12 thing 0 is mended", Checks.thingRow(x, 0), 2, 1, NONE, 0, 1, 1, NONE, 0);
    }

    private static void promise13Step() {
        MendingMornings x = new MendingMornings();
        Checks.bring(x, "05,16p3,27;49p0!2");
        int[][] none = {{-1, 0}, {2, 0}, {LEAST, 0}, {MOST, 0}, {0, -1}, {0, 3}, {0, 4}, {1, 1}, {0, LEAST}, {0, MOST}};
        for (int[] row : none) {
            Checks.due("13 no such step", x.step(row[0], row[1], 0), NO_SUCH);
            Checks.due("13 no such step, nor what", x.step(row[0], row[1], 3), NO_SUCH);
        }
        int[] nothing = {-1, 3, LEAST, MOST};
        for (int what : nothing) {
            Checks.due("13 no such what", x.step(0, 2, what), BAD_VALUE);
        }
        int[][] steps = {{0, 0, 0, 5, NONE}, {0, 1, 1, 6, 3}, {0, 2, 2, 7, NONE}, {1, 0, 4, 9, 0}};
        for (int[] row : steps) {
            for (int what = 0; what < 3; what++) {
                Checks.due("13 step", x.step(row[0], row[1], what), row[2 + what]);
            }
        }
    }

    private static void promise14Count() {
        MendingMornings x = new MendingMornings();
        int[] nothing = {-1, 17, LEAST, MOST};
        for (int what : nothing) {
            Checks.due("14 no such what", x.count(what), BAD_VALUE);
        }
        x.come(33, 3);
        x.come(2, 1);
        x.come(2, 1);
        x.away(2, true);
        x.set(0, 3);
        x.set(1, 1);
        Checks.bring(x, "01!1;19p1;49p2;01p3");
        x.stock(0, 5);
        x.pass(1);
        Checks.dueRow("14 counts", Checks.counts(x), 3, 4, 2, 2, 0, 0, 0, 1, 0, 7, 1, 2, 2, 3, 1, 0, 6);
        x.away(2, false);
        Checks.write(x, "0,1;p");
        x.pass(4);
        Checks.dueRow("14 counts", Checks.counts(x), 3, 4, 0, 2, 1, 1, 1, 5, 1, 7, 1, 2, 1, 3, 1, 5, 6);
        x.pass(3);
        Checks.dueRow("14 counts", Checks.counts(x), 3, 4, 0, 1, 2, 1, 2, 8, 1, 7, 1, 2, 1, 3, 1, 5, 6);
    }

    private static void promise15Plan() {
        MendingMornings x = new MendingMornings();
        Checks.due("15 nobody", x.plan(0), NO_SUCH);
        x.come(1, 1);
        Checks.due("15 nobody", x.plan(1), NO_SUCH);
        Checks.due("15 nobody", x.plan(-1), NO_SUCH);
        Checks.due("15 nobody", x.plan(8), NO_SUCH);
        Checks.due("15 nobody", x.plan(LEAST), NO_SUCH);
        Checks.due("15 nobody", x.plan(MOST), NO_SUCH);
        Checks.due("15 no things", x.plan(0), NONE);
        Checks.bring(x, "11;01");
        Checks.due("15 the only one", x.plan(0), 1);
        x.come(3, 1);
        Checks.due("15 fixer 0", x.plan(0), 1);
        Checks.due("15 fixer 1", x.plan(1), 0);
        x.come(3, 1);
        Checks.due("15 any thing rather than none", x.plan(2), NONE);
        x.away(0, true);
        Checks.due("15 away", x.plan(0), NONE);
        Checks.due("15 the lowest", x.plan(1), 0);
        Checks.due("15 the other", x.plan(2), 1);
    }

    private static void promise15WhoCanTake() {
        MendingMornings x = new MendingMornings();
        x.come(1, 1);
        x.come(1, 1);
        x.come(1, 1);
        x.come(32, 1);
        Checks.bring(x, "01p0;01p0;01p0;01p1;11");
        Checks.due("15 others could take the last one", x.plan(2), 2);
        x.pass(1);
        Checks.due("15 being done", x.plan(0), NONE);
        Checks.due("15 busy", x.plan(2), NONE);
        x.pass(1);
        Checks.due("15 the test", x.plan(3), NONE);
        Checks.due("15 the test is done", x.fixer(3, 3), 0);
        x.pass(6);
        x.stock(0, 1);
        Checks.due("15 given up", x.plan(0), NONE);
        x.again(2);
        Checks.due("15 again", x.plan(0), 2);
        Checks.due("15 only one", x.plan(1), NONE);
        // Without its part nobody can take a thing, wherever it stands.
        MendingMornings y = new MendingMornings();
        y.come(3, 1);
        Checks.bring(y, "01p3;01p3;01p3;11p2");
        y.pass(2);
        y.away(0, true);
        y.pass(1);
        y.away(0, false);
        Checks.due("15 part 3 is out", y.count(12), 0);
        Checks.due("15 the one with a part", y.plan(0), 3);
        y.stock(3, 1);
        Checks.due("15 the one with a part now", y.plan(0), 2);
    }

    private static void promise15LowestThings() {
        // As many as possible first: fixer 0 leaves thing 0 to fixer 1, who can do nothing else.
        MendingMornings x = new MendingMornings();
        x.come(3, 1);
        x.come(1, 1);
        Checks.bring(x, "01;11;12");
        Checks.due("15 fixer 0", x.plan(0), 1);
        Checks.due("15 fixer 1", x.plan(1), 0);
        // Fixer 0 gets the lowest thing, though fixer 1 gets none then, for fixer 2 makes up for it.
        MendingMornings y = new MendingMornings();
        y.come(3, 1);
        y.come(1, 1);
        y.come(2, 1);
        Checks.bring(y, "01;11");
        Checks.due("15 fixer 0", y.plan(0), 0);
        Checks.due("15 fixer 1", y.plan(1), NONE);
        Checks.due("15 fixer 2", y.plan(2), 1);
        // A long chain: everyone has to step aside for the last one.
        MendingMornings z = new MendingMornings();
        z.come(3, 1);
        z.come(6, 1);
        z.come(12, 1);
        z.come(24, 1);
        z.come(1, 1);
        Checks.bring(z, "01;11;21;31;41");
        Checks.due("15 all", z.planned(), 5);
        for (int i = 0; i < 4; i++) {
            Checks.due("15 fixer " + i, z.plan(i), i + 1);
        }
        Checks.due("15 fixer 4", z.plan(4), 0);
        z.away(4, true);
        for (int i = 0; i < 4; i++) {
            Checks.due("15 fixer " + i, z.plan(i), i);
        }
        // The lowest, not the one that waited longest.
        MendingMornings u = new MendingMornings();
        u.come(1, 1);
        Checks.bring(u, "02,01;01");
        u.giveOut();
        u.away(0, true);
        u.pass(2);
        u.away(0, false);
        Checks.due("15 waited", u.thing(0, 3), 1);
        Checks.due("15 waited longer", u.thing(1, 3), 2);
        Checks.due("15 the lowest", u.plan(0), 0);
        u.pass(1);
        Checks.due("15 a slot does it the other way", u.fixer(0, 3), 1);
    }

    private static void promise16Planned() {
        MendingMornings x = new MendingMornings();
        Checks.due("16 nobody", x.planned(), 0);
        Checks.bring(x, "01;01;01;11;11p3;21;31;41;01;01;01;01;01;01;01;01");
        Checks.due("16 nobody", x.planned(), 0);
        x.come(32, 1);
        Checks.due("16 no test", x.planned(), 0);
        for (int i = 1; i < 8; i++) {
            x.come(i < 4 ? 2 : 3, 1);
        }
        Checks.due("16 all but the tester, and one", x.planned(), 6);
        x.away(7, true);
        x.away(1, true);
        Checks.due("16 without two", x.planned(), 5);
        x.giveOut();
        Checks.due("16 all busy", x.planned(), 0);
        x.away(7, false);
        Checks.due("16 one more", x.planned(), 1);
    }

    private static void promise17IfAway() {
        MendingMornings x = new MendingMornings();
        Checks.due("17 nobody", x.ifAway(0), NO_SUCH);
        x.come(3, 1);
        x.come(1, 1);
        x.come(1, 1);
        x.come(2, 1);
        int[] nobody = {-1, 4, 8, LEAST, MOST};
        for (int fixer : nobody) {
            Checks.due("17 nobody", x.ifAway(fixer), NO_SUCH);
        }
        Checks.bring(x, "01;11;12");
        Checks.due("17 planned", x.planned(), 3);
        Checks.due("17 fixer 0 is needed", x.ifAway(0), 2);
        Checks.due("17 fixer 1 is not", x.ifAway(1), 3);
        Checks.due("17 fixer 2 is not", x.ifAway(2), 3);
        Checks.due("17 fixer 3 is needed", x.ifAway(3), 2);
        x.away(3, true);
        Checks.due("17 away already", x.ifAway(3), 2);
        Checks.due("17 now 0", x.ifAway(0), 1);
        Checks.due("17 nothing changed", x.fixer(0, 2), 1);
        Checks.due("17 nothing changed", x.planned(), 2);
        x.pass(1);
        Checks.bring(x, "06");
        Checks.due("17 thing 0 is being done", x.thing(0, 0), 1);
        Checks.due("17 two who can", x.ifAway(2), 1);
        x.away(1, true);
        Checks.due("17 fixer 2 alone", x.planned(), 1);
        Checks.due("17 nobody else", x.ifAway(2), 0);
    }

    private static void promise18BestSkill() {
        MendingMornings x = new MendingMornings();
        int[] nothing = {-1, 2, LEAST, MOST};
        for (int what : nothing) {
            Checks.due("18 no such what", x.bestSkill(what), BAD_VALUE);
        }
        Checks.due("18 the least of equals", x.bestSkill(0), 0);
        Checks.due("18 none", x.bestSkill(1), 0);
        Checks.bring(x, "31;31;41");
        Checks.due("18 skill", x.bestSkill(0), 3);
        Checks.due("18 how many", x.bestSkill(1), 1);
        x.come(8, 1);
        x.come(24, 1);
        Checks.due("18 skill", x.bestSkill(0), 3);
        Checks.due("18 how many", x.bestSkill(1), 3);
        x.come(8, 1);
        Checks.due("18 nobody helps", x.bestSkill(0), 0);
        Checks.due("18 how many", x.bestSkill(1), 3);
        Checks.due("18 nothing changed", x.count(0), 3);
        // Everybody away: the tester is the one who can do most.
        MendingMornings y = new MendingMornings();
        y.come(16, 1);
        Checks.bring(y, "41p2");
        y.pass(1);
        y.pass(1);
        Checks.due("18 the test", y.bestSkill(0), 5);
        Checks.due("18 how many", y.bestSkill(1), 1);
        y.clear();
        Checks.bring(y, "41p2;41p2");
        Checks.due("18 with its part", y.bestSkill(0), 4);
        y.pass(1);
        Checks.due("18 without its part", y.bestSkill(0), 0);
        Checks.due("18 how many", y.bestSkill(1), 0);
    }

    private static void promise18NinthFixer() {
        MendingMornings x = new MendingMornings();
        for (int i = 0; i < 8; i++) {
            x.come(31, 1);
        }
        Checks.bring(x, "01;01;01;01;01;01;01;01;21");
        Checks.due("18 eight", x.planned(), 8);
        Checks.due("18 nine", x.bestSkill(1), 9);
        Checks.due("18 any of the skills 0 and 2, the least", x.bestSkill(0), 0);
        x.clear();
        Checks.bring(x, "11;01p0;01p0;01p0;01p0;01p0;01p0;01p0;01p0");
        Checks.due("18 the last part serves all", x.bestSkill(1), 9);
        Checks.due("18 eight fixers still", x.count(0), 8);
    }

    private static void promise19IfPassed() {
        MendingMornings x = new MendingMornings();
        int[][] bad = {{0, 0}, {201, 0}, {-1, 1}, {LEAST, 2}, {MOST, 2}, {1, -1}, {1, 3}, {200, LEAST}, {200, MOST}, {0, 3}};
        for (int[] row : bad) {
            Checks.due("19 ifPassed(" + row[0] + ", " + row[1] + ")", x.ifPassed(row[0], row[1]), BAD_VALUE);
        }
        x.come(33, 1);
        Checks.bring(x, "01!1;11;21;01!2");
        int[][] due = {{1, 0, 0, 0}, {4, 0, 0, 0}, {5, 0, 0, 1}, {6, 0, 0, 1}, {7, 0, 2, 2}, {10, 0, 2, 2},
            {11, 1, 2, 2}, {13, 1, 2, 3}, {15, 1, 2, 3}, {16, 2, 2, 3}, {200, 2, 2, 3}};
        for (int[] row : due) {
            for (int what = 0; what < 3; what++) {
                Checks.due("19 ifPassed(" + row[0] + ", " + what + ")", x.ifPassed(row[0], what), row[1 + what]);
            }
        }
        Checks.due("19 nothing changed", x.count(7), 0);
        Checks.due("19 nothing changed", x.count(2), 4);
        x.pass(8);
        Checks.due("19 only those to come", x.ifPassed(200, 0), 2);
        Checks.due("19 only those to come", x.ifPassed(200, 1), 0);
        Checks.due("19 only those to come", x.ifPassed(200, 2), 1);
        x.pass(200);
        for (int what = 0; what < 3; what++) {
            Checks.due("19 nothing more", x.ifPassed(200, what), 0);
        }
    }

    private static void promise20UntilOver() {
        MendingMornings x = new MendingMornings();
        Checks.due("20 now", x.untilOver(), 0);
        Checks.bring(x, "01");
        Checks.due("20 given up", x.untilOver(), 7);
        x.pass(3);
        Checks.due("20 given up", x.untilOver(), 4);
        Checks.due("20 nothing changed", x.count(7), 3);
        x.come(63, 1);
        Checks.due("20 mended", x.untilOver(), 4);
        x.pass(4);
        Checks.due("20 over", x.untilOver(), 0);
        Checks.due("20 mended", x.count(4), 1);
        Checks.bring(x, "01");
        x.pass(1);
        x.away(0, true);
        Checks.due("20 being done, and given up", x.untilOver(), 7);
    }

    private static MendingMornings longMorning() {
        MendingMornings x = new MendingMornings();
        x.set(0, 50);
        x.set(1, 9);
        x.come(63, 1);
        Checks.bring(x, "09,09,09,09!3;09,09,09,09!3;09,09,09,09!3;09,09,09,09!3");
        return x;
    }

    private static void promise20Within500() {
        MendingMornings x = longMorning();
        Checks.due("20 four things", x.untilOver(), 4 * WHOLE + 1);
        Checks.bring(x, "09,09,09,09!3");
        Checks.due("20 five things", x.untilOver(), 5 * WHOLE + 1);
        Checks.bring(x, "03");
        int all = 5 * WHOLE + 3 + 9 + 1;
        Checks.due("20 more than 500", x.untilOver(), NONE);
        x.pass(all - 501);
        Checks.due("20 501", x.untilOver(), NONE);
        x.pass(1);
        Checks.due("20 500", x.untilOver(), 500);
        x.pass(200);
        Checks.due("20 300", x.untilOver(), 300);
        x.pass(200);
        x.pass(99);
        Checks.due("20 the last slot", x.untilOver(), 1);
        Checks.due("20 the last one", x.pass(1), 1);
        Checks.due("20 all are mended", x.count(4), 6);
        Checks.due("20 over", x.untilOver(), 0);
    }

    private static void promise21BestPart() {
        MendingMornings x = new MendingMornings();
        int[] nothing = {-1, 2, LEAST, MOST};
        for (int what : nothing) {
            Checks.due("21 no such what", x.bestPart(what), BAD_VALUE);
        }
        Checks.due("21 the least of equals", x.bestPart(0), 0);
        Checks.due("21 none", x.bestPart(1), 0);
        x.come(63, 3);
        x.set(0, 50);
        Checks.bring(x, "01p2;01p2;01p2;01p3;01p3;01p3!1");
        Checks.due("21 part", x.bestPart(0), 2);
        Checks.due("21 how many", x.bestPart(1), 5);
        Checks.due("21 nothing changed", x.count(11), 2);
        x.stock(2, 1);
        Checks.due("21 the weak one takes two", x.bestPart(0), 0);
        Checks.due("21 how many", x.bestPart(1), 5);
        x.stock(3, 1);
        Checks.due("21 part", x.bestPart(0), 3);
        Checks.due("21 how many", x.bestPart(1), 6);
        x.stock(3, 1);
        Checks.due("21 all", x.bestPart(0), 0);
        Checks.due("21 how many", x.bestPart(1), 6);
        x.pass(200);
        Checks.due("21 none to come", x.bestPart(1), 0);
    }

    private static void promise21Above99() {
        MendingMornings x = new MendingMornings();
        x.set(0, 50);
        x.stock(3, 97);
        for (int i = 0; i < 8; i++) {
            x.come(63, 3);
        }
        // 7 parts each for 14 things, and one each for two more: 100 parts in all.
        for (int i = 0; i < 14; i++) {
            Checks.bring(x, "01p3,01p3,01p3,01p3!3");
        }
        Checks.due("21 things", Checks.bring(x, "01p3;01p3"), 16);
        Checks.due("21 99 are not enough", x.ifPassed(200, 0), 15);
        Checks.due("21 part", x.bestPart(0), 3);
        Checks.due("21 all", x.bestPart(1), 16);
        Checks.due("21 nothing changed", x.count(12), 99);
    }

    private static void promise21Within500() {
        MendingMornings x = longMorning();
        Checks.bring(x, "09,09,09,09!3;03");
        int all = 5 * WHOLE + 3 + 9 + 1;
        x.pass(all - 501);
        Checks.due("21 none is mended yet", x.count(4), 0);
        Checks.due("21 the last one takes a slot too many", x.bestPart(1), 5);
        x.pass(1);
        Checks.due("21 all in the 500 slots", x.bestPart(1), 6);
        Checks.due("21 part", x.bestPart(0), 0);
    }
}
