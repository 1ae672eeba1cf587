/** Promises 1 to 27, each sentence that names a boundary by itself: too small, too large, empty, full, and what is between. */
public final class EdgesTest {
    private static final String EIGHT_THINGS = "text 09;09;09;09;09;09;09;09 = 23 | bring\n";
    // One fixer needs 99 slots for each of these: four steps of 9, three failed tests with a step each, and the last test.
    private static final String FIVE_LONG_THINGS = "set 0 50 | set 1 9 | come 63 1\n"
        + "text 09,09,09,09!3;09,09,09,09!3;09,09,09,09!3;09,09,09,09!3 = 55 | bring | text 09,09,09,09!3 = 13 | bring\n";

    public static void main(String[] args) {
        promise1();
        promise2();
        promise3();
        promise4();
        promise5();
        promise5FullAndEmptyPad();
        promise6();
        promise7();
        promise8();
        promise9();
        promise9PartGone();
        promise10();
        promise11();
        promise12();
        promise13();
        promise14();
        promise15();
        promise15AsManyAsPossible();
        promise16();
        promise17();
        promise18();
        promise19();
        promise20();
        promise21();
        promise22();
        promise23();
        promise24();
        promise25();
        promise25AlsoIfNothingIsDifferent();
        promise26();
        promise27();
        Checks.end("EdgesTest");
    }

    private static void promise1() {
        Script.run("1 without fixers and things, with the first values", """
            count * = 0 0 0 0 0 0 0 0 0 2 2 2 2 6 2 0 0 | planned = 0 | untilOver = 0 | fault = 0 | wipe = 0 | bestSkill * = 0 0
            bestPart * = 0 0 | ifPassed 200 * = 0 0 0 | fixer 0 0 = NO_SUCH | thing 0 0 = NO_SUCH | undo = NOT_POSSIBLE
            restore 0 = NOT_POSSIBLE | restore 1 = NOT_POSSIBLE
            """);
    }

    private static void promise2() {
        Script.run("2 the least and the largest value of PATIENCE", """
            set 0 1 = 6 | set 0 50 = 1 | set 0 0 = BAD_VALUE | set 0 51 = BAD_VALUE | set 0 -1 = BAD_VALUE | count 13 = 50
            """);
        Script.run("2 the least and the largest value of TEST", """
            set 1 1 = 2 | set 1 9 = 1 | set 1 0 = BAD_VALUE | set 1 10 = BAD_VALUE | set 1 50 = BAD_VALUE | count 14 = 9
            """);
        Script.run("2 there is no such setting", "set -1 1 = BAD_VALUE | set 2 1 = BAD_VALUE | set 256 1 = BAD_VALUE");
        Script.run("2 the previous value, also if it is the same", "set 0 6 = 6 | set 0 6 = 6 | set 1 2 = 2 | count 16 = 3");
    }

    private static void promise3() {
        Script.run("3 skills: 1 to 63", "come 1 1 = 0 | come 63 1 = 1 | come 0 1 = BAD_VALUE | come 64 1 = BAD_VALUE"
            + "| come 65 1 = BAD_VALUE | come -63 1 = BAD_VALUE | count 0 = 2");
        Script.run("3 speed: 1 to 3", "come 1 1 = 0 | come 1 3 = 1 | come 1 0 = BAD_VALUE | come 1 4 = BAD_VALUE"
            + "| count 0 = 2");
        Script.run("3 TOO_MANY if there are 8, also if all are away", """
            7x come 1 1 | come 1 1 = 7 | come 1 1 = TOO_MANY | 8x count 0 = 8 | away 0 true | away 1 true | away 2 true
            away 3 true | away 4 true | away 5 true | away 6 true | away 7 true = 0 | come 1 1 = TOO_MANY
            """);
        Script.run("3 nothing is left of a fixer who had the number before", """
            save 0 = 0 | come 63 3 = 0 | text 01;09 = 5 | bring = 2 | pass 4 = 0 | away 0 true = 0 | fixer 0 * = 63 3 0 1 3 1
            restore 0 = 0 | come 2 1 = 0 | fixer 0 * = 2 1 1 -6 0 0
            """);
        Script.run("3 an argument out of range goes before TOO_MANY", """
            8x come 1 1 | come 0 1 = BAD_VALUE | come 64 1 = BAD_VALUE | come 1 0 = BAD_VALUE | come 1 4 = BAD_VALUE
            """);
    }

    private static void promise4() {
        Script.run("4 the only fixer: none is there then", "come 1 1 = 0 | away 0 true = 0 | away 0 false = 1");
        Script.run("4 the last fixer, and one behind it", """
            7x come 1 1 | away 6 true = 63 | away 7 true = NO_SUCH | away 7 false = NO_SUCH | come 1 1 = 7 | away 7 true = 63
            away 8 true = NO_SUCH | away -1 true = NO_SUCH
            """);
        Script.run("4 NOT_POSSIBLE if it is so already", """
            come 1 1 = 0 | come 1 1 = 1 | away 1 false = NOT_POSSIBLE | away 1 true = 1 | away 1 true = NOT_POSSIBLE
            away 1 false = 3 | away 1 false = NOT_POSSIBLE | count 16 = 4
            """);
    }

    private static void promise5() {
        Script.run("5 there would be 16, and more than 16", """
            text 01;01;01;01;01;01;01;01;01;01;01;01;01;01;01;01 = 47 | bring = 16 | text 01 = 2 | bring = TOO_MANY
            count 15 = 2
            clear = 16 | bring = 1 | text 01;01;01;01;01;01;01;01;01;01;01;01;01;01;01;01 = 47 | bring = TOO_MANY | wipe = 47
            text 01;01;01;01;01;01;01;01;01;01;01;01;01;01;01 = 44 | bring = 16
            """);
        Script.run("5 things in all states count", """
            come 33 3 = 0 | set 0 1 = 6 | text 01;11;11;11;11;11;11;11;11;11;11;11;11;11;11 = 44 | bring = 15 | pass 5 = 1
            count 5 = 14 | count 4 = 1 | text 01;01 = 5 | bring = TOO_MANY | wipe = 5 | text 01 = 2 | bring = 16
            """);
        Script.run("5 the things of the pad wait, for 0 slots", """
            come 63 3 = 0 | pass 9 = 0 | text 41!3 = 4 | bring = 1 | thing 0 * = 0 1 0 0 0 3 -6 1 | count 2 = 1 | count 7 = 9
            """);
    }

    private static void promise5FullAndEmptyPad() {
        Script.run("5 an empty pad has a fault", "bring = BAD_TEXT | text 01 = 2 | bring = 1 | bring = BAD_TEXT | count 1 = 1");
        Script.run("5 a fault goes before TOO_MANY", """
            text 01;01;01;01;01;01;01;01;01;01;01;01;01;01;01;01 = 47 | bring = 16 | bring = BAD_TEXT
            text 01; = 3 | bring = BAD_TEXT | wipe = 3 | text x = 1 | bring = BAD_TEXT
            """);
        Script.run("5 the pad is emptied, but not when it is refused", """
            text 01, = 3 | bring = BAD_TEXT | count 15 = 3 | text 01 = 5 | bring = 1 | count 15 = 0 | fault = 0 | wipe = 0
            thing 0 1 = 2
            """);
    }

    private static void promise6() {
        Script.run("6 many: 1 to 99", "stock 0 1 = 3 | stock 0 0 = BAD_VALUE | stock 0 100 = BAD_VALUE | stock 0 -1 = BAD_VALUE"
            + "| come 3 1 = 0 | come 3 1 = 1 | text 09p3;09p3 = 9 | bring = 2 | pass 1 = 0 | count 12 = 0 | stock 3 99 = 99");
        Script.run("6 there would be 99, and more than 99", """
            stock 0 97 = 99 | stock 0 1 = TOO_MANY | stock 0 99 = TOO_MANY | stock 1 98 = TOO_MANY | stock 1 96 = 98
            stock 1 2 = TOO_MANY | stock 1 1 = 99 | count 9 = 99 | count 10 = 99 | count 11 = 2 | count 12 = 2
            """);
        Script.run("6 no such part", "stock -1 1 = NO_SUCH | stock 4 1 = NO_SUCH | stock 0 1 = 3 | stock 3 1 = 3"
            + "| stock 256 1 = NO_SUCH");
        Script.run("6 NO_SUCH goes before BAD_VALUE, and that before TOO_MANY", """
            stock 0 97 = 99 | stock 4 0 = NO_SUCH | stock -1 100 = NO_SUCH | stock 4 99 = NO_SUCH
            stock 0 0 = BAD_VALUE | stock 0 100 = BAD_VALUE | stock 0 MOST = BAD_VALUE | stock 0 99 = TOO_MANY
            """);
    }

    private static void promise7() {
        Script.run("7 NOT_POSSIBLE if it was not given up: waiting, being done, mended", """
            come 33 3 = 0 | text 01;11 = 5 | bring = 2 | again 0 = NOT_POSSIBLE | again 2 = NO_SUCH | again -1 = NO_SUCH
            pass 1 = 0 | thing 0 0 = BEING_DONE | again 0 = NOT_POSSIBLE | pass 6 = 1 | thing 0 0 = MENDED
            again 0 = NOT_POSSIBLE
            thing 1 0 = GIVEN_UP | again 1 = 1 | again 1 = NOT_POSSIBLE
            """);
        Script.run("7 how many things wait then, this one, too", """
            set 0 1 = 6 | text 01;01;01 = 8 | bring = 3 | pass 2 = 0 | count 2 = 0 | again 2 = 1 | again 0 = 2 | text 01 = 2
            bring = 4 | again 1 = 4
            """);
        Script.run("7 it waits for 0 slots, and its patience is whole again", """
            text 01 = 2 | bring = 1 | pass 7 = 0 | again 0 = 1 | thing 0 3 = 0 | pass 6 = 0 | thing 0 3 = 6 | pass 1 = 0
            thing 0 0 = GIVEN_UP | again 0 = 1
            """);
        Script.run("7 with its next step as it was, also the test", """
            come 1 3 = 0 | text 01,01!2 = 7 | bring = 1 | pass 3 = 0 | pass 6 = 0 | thing 0 * = 3 2 2 0 0 2 -6 0 | again 0 = 1
            thing 0 * = 0 2 2 0 0 2 -6 0 | come 32 3 = 1 | pass 1 = 0 | fixer 1 3 = 0 | thing 0 2 = 2
            """);
    }

    private static void promise8() {
        Script.run("8 slots: 1 to 200", "pass 0 = BAD_VALUE | pass 201 = BAD_VALUE | pass -1 = BAD_VALUE | count 7 = 0"
            + "| pass 1 = 0 | count 7 = 1 | pass 200 = 0 | count 7 = 201");
        Script.run("8 how many are mended in these slots", """
            come 63 3 = 0 | text 01;01 = 5 | bring = 2 | pass 2 = 0 | pass 1 = 0 | pass 1 = 1 | pass 1 = 1 | pass 1 = 0
            """);
        Script.run("8 200 slots are as many as 200 times one", FIVE_LONG_THINGS + "pass 200 = 0 | save 0 = 5 | thing 0 2 = 3"
            + "| fixer 0 5 = 22 | undo = 5 | 200x pass 1 = 0 | thing 0 2 = 3 | fixer 0 5 = 22 | count 7 = 200 | pass 200 = 0"
            + "| pass 59 = 0 | pass 1 = 1 | pass 36 = 4");
    }

    private static void promise9() {
        Script.run("9 nobody, and nothing: 0, and a change all the same", "giveOut = 0 | count 16 = 1 | come 1 1 = 0"
            + "| giveOut = 0"
            + "| count 16 = 3 | away 0 true = 0 | text 01 = 2 | bring = 1 | giveOut = 0 | undo = 5 | count 2 = 1");
        Script.run("9 all eight", "8x come 1 2\n" + EIGHT_THINGS + "giveOut = 8 | count 3 = 8 | fixer 0 * = 1 2 1 0 9 0"
            + "| fixer 7 * = 1 2 1 7 9 0 | giveOut = 0 | count 7 = 0 | planned = 0 | pass 1 = 0 | fixer 7 4 = 7");
        Script.run("9 as in a slot: the part is taken, it waits no more, all the work is left", """
            text 09p1 = 4 | bring = 1 | pass 3 = 0 | thing 0 3 = 3 | come 1 3 = 0 | giveOut = 1 | thing 0 * = 1 1 0 0 0 0 0 1
            fixer 0 4 = 9 | count 10 = 1 | count 7 = 3
            """);
    }

    private static void promise9PartGone() {
        Script.run("9 if its part is still in stock: the last one is gone", """
            come 1 1 = 0 | come 1 1 = 1 | come 1 1 = 2 | text 09p0;09p0;09p0;09 = 17 | bring = 4 | planned = 3
            plan 0 = 0 | plan 1 = 1 | plan 2 = 2 | giveOut = 2 | fixer 2 3 = NONE | count 9 = 0 | thing 2 * = 0 1 0 0 0 0 -6 7
            planned = 1 | plan 2 = 3 | giveOut = 1 | fixer 2 3 = 3
            """);
        Script.run("9 a fixer behind one without a part still takes its thing", """
            come 1 1 = 0 | come 1 1 = 1 | come 1 1 = 2 | come 2 1 = 3 | text 09p0;09p0;09p0;19p3 = 19 | bring = 4
            giveOut = 3 | fixer 2 3 = NONE | fixer 3 3 = 3 | count 9 = 0 | count 12 = 1
            """);
    }

    private static void promise10() {
        Script.run("10 nothing to clear: 0, and a change all the same", "clear = 0 | count 16 = 1 | undo = 0");
        Script.run("10 all things go, fixers are free, the slots are 0; the others stay", """
            come 33 2 = 0 | come 1 1 = 1 | set 0 9 = 6 | set 1 3 = 2 | text 01p2!1;09 = 9 | bring = 2 | pass 3 = 0
            away 1 true = 1 | count 8 = 0 | pass 1 = 0 | count 8 = 1 | text 01; = 3 | save 0 = 2 | count 3 = 2 | clear = 2
            count * = 2 0 0 0 0 0 1 0 1 2 2 0 2 9 3 3 6 | fixer 0 * = 33 2 1 -6 0 2 | fixer 1 * = 1 1 0 -6 0 0
            thing 0 0 = NO_SUCH | text 02 = 5 | bring = 2 | thing 0 * = 0 1 0 0 0 0 -6 3 | restore 0 = 2
            """);
        Script.run("10 sixteen go, and sixteen can come", """
            text 01;01;01;01;01;01;01;01;01;01;01;01;01;01;01;01 = 47 | bring = 16 | clear = 16 | clear = 0
            text 02;02;02;02;02;02;02;02;02;02;02;02;02;02;02;02 = 47 | bring = 16 | step 15 0 1 = 2
            """);
    }

    private static void promise11() {
        Script.run("11 what: 0 to 5; a free fixer has no thing, and no work left", """
            come 63 3 = 0 | fixer 0 * = 63 3 1 -6 0 0 | fixer 0 -1 = BAD_VALUE | fixer 0 6 = BAD_VALUE
            away 0 true = 0 | fixer 0 * = 63 3 0 -6 0 0
            """);
        Script.run("11 NO_SUCH goes before BAD_VALUE", """
            fixer 0 6 = NO_SUCH | come 1 1 = 0 | fixer 0 0 = 1 | fixer 1 -1 = NO_SUCH | fixer -1 6 = NO_SUCH
            fixer 1 0 = NO_SUCH
            7x come 1 1 | fixer 7 0 = 1 | fixer 8 0 = NO_SUCH | fixer 8 9 = NO_SUCH
            """);
        Script.run("11 steps done so far, tests, too: failed ones, and others", """
            come 63 3 = 0 | text 01!1 = 4 | bring = 1 | pass 1 = 0 | fixer 0 5 = 0 | pass 1 = 0 | fixer 0 5 = 1 | pass 1 = 0
            fixer 0 5 = 2 | pass 1 = 0 | fixer 0 5 = 3 | pass 1 = 1 | fixer 0 5 = 4 | pass 1 = 0 | fixer 0 5 = 4
            """);
        Script.run("11 a fixer that nobody is any more", "come 5 2 = 0 | undo = 0 | fixer 0 0 = NO_SUCH | fixer 0 6 = NO_SUCH");
    }

    private static void promise12() {
        Script.run("12 what: 0 to 7", "text 01,42!3 = 7 | bring = 1 | thing 0 * = 0 2 0 0 0 3 -6 0 | thing 0 8 = BAD_VALUE"
            + "| thing 0 -1 = BAD_VALUE | thing 1 8 = NO_SUCH | thing 1 0 = NO_SUCH | thing -1 -1 = NO_SUCH");
        Script.run("12 the number of its next step: as many as it has steps for the test, NONE if it is mended", """
            come 63 3 = 0 | text 01,01,01,01 = 11 | bring = 1 | thing 0 2 = 0 | pass 4 = 0 | thing 0 2 = 3 | pass 1 = 0
            thing 0 2 = 4 | thing 0 7 = 1 | pass 1 = 1 | thing 0 2 = NONE | thing 0 7 = 0 | thing 0 6 = NONE
            """);
        Script.run("12 fixers, there or away, that have the skill; also the one who does it, and for one that is given up", """
            come 3 1 = 0 | come 1 1 = 1 | come 62 1 = 2 | text 09,19 = 5 | bring = 1 | thing 0 7 = 3 | away 1 true = 5
            thing 0 7 = 3
            pass 1 = 0 | thing 0 7 = 3 | thing 0 6 = 0 | away 0 true = 4 | away 2 true = 0 | pass 9 = 0 | thing 0 2 = 1
            thing 0 7 = 5 | pass 6 = 0 | thing 0 0 = GIVEN_UP | thing 0 7 = 5 | thing 0 2 = 1
            """);
        Script.run("12 the sixteenth, and one behind it", "text 01;01;01;01;01;01;01;01;01;01;01;01;01;01;01;01 = 47"
            + "| bring = 16"
            + "| thing 15 * = 0 1 0 0 0 0 -6 0 | thing 16 0 = NO_SUCH | undo = 0 | thing 0 0 = NO_SUCH");
    }

    private static void promise13() {
        Script.run("13 the first and the last step, and one behind it", """
            text 01,12p0,23p3,34 = 15 | bring = 1 | step 0 0 * = 0 1 -6 | step 0 1 * = 1 2 0 | step 0 2 * = 2 3 3
            step 0 3 * = 3 4 -6
            step 0 4 0 = NO_SUCH | step 0 -1 0 = NO_SUCH | step 1 0 0 = NO_SUCH | step -1 0 0 = NO_SUCH
            """);
        Script.run("13 what: 0 to 2; NO_SUCH goes before BAD_VALUE", """
            text 49 = 2 | bring = 1 | step 0 0 3 = BAD_VALUE | step 0 0 -1 = BAD_VALUE | step 0 1 3 = NO_SUCH
            step 0 -1 -1 = NO_SUCH
            step 1 0 3 = NO_SUCH | step 1 1 3 = NO_SUCH | step -1 0 -1 = NO_SUCH
            """);
        Script.run("13 steps stay when they are done", "come 63 3 = 0 | text 01p2 = 4 | bring = 1 | pass 9 = 1"
            + "| step 0 0 * = 0 1 2");
        Script.run("13 nothing is left of a longer thing before", """
            text 01p1,02p1,03p1,04p1!3 = 21 | bring = 1 | clear = 1 | text 41 = 2 | bring = 1 | step 0 0 * = 4 1 -6
            step 0 1 0 = NO_SUCH | step 0 3 2 = NO_SUCH | thing 0 5 = 0
            """);
    }

    private static void promise14() {
        Script.run("14 what: 0 to 16", "count -1 = BAD_VALUE | count 17 = BAD_VALUE | count 0 = 0 | count 16 = 0");
        Script.run("14 each number by itself", """
            come 33 3 = 0 | come 33 1 = 1 | come 4 1 = 2 | count 0 = 3 | count 6 = 3 | away 2 true = 3 | count 6 = 2
            set 0 2 = 6 | count 13 = 2 | set 1 1 = 2 | count 14 = 1 | text 01!1;09;31;41p1 = 15 | count 15 = 15 | bring = 4
            count 1 = 4 | count 15 = 0 | pass 1 = 0 | count 2 = 2 | count 3 = 2 | count 6 = 0 | pass 2 = 0 | count 8 = 1
            count 5 = 2 | count 7 = 3 | pass 2 = 1 | count 4 = 1 | count 6 = 1 | stock 2 5 = 7 | stock 3 6 = 8 | stock 0 1 = 3
            stock 1 2 = 4 | count * = 3 4 0 1 1 2 1 5 1 3 4 7 8 2 1 0 6
            """);
    }

    private static void promise15() {
        Script.run("15 no such fixer, and NONE for one who gets nothing", """
            plan 0 = NO_SUCH | come 1 1 = 0 | plan 0 = NONE | plan 1 = NO_SUCH | plan -1 = NO_SUCH
            text 01 = 2 | bring = 1 | plan 0 = 0 | come 1 1 = 1 | plan 1 = NONE
            """);
        Script.run("15 can take: there and free, waits, the skill, the part in stock", """
            come 1 1 = 0 | come 1 1 = 1 | text 09p0;09;09p0;19 = 15 | bring = 4 | away 0 true = 2 | plan 0 = NONE | plan 1 = 0
            giveOut = 1 | plan 1 = NONE | away 0 false = 3 | plan 0 = 1 | giveOut = 1 | plan 0 = NONE
            come 1 1 = 2 | plan 2 = 2 | come 1 1 = 3 | plan 3 = NONE | pass 1 = 0 | count 9 = 0 | text 09p0 = 4 | bring = 5
            plan 3 = NONE | stock 0 1 = 1 | plan 3 = 4
            """);
        Script.run("15 that others could take the last part does not matter", """
            come 3 1 = 0 | come 1 1 = 1 | come 1 1 = 2 | text 11p2;19p2 = 9 | bring = 2 | giveOut = 1 | count 11 = 1
            text 01p2;01p2 = 9 | bring = 4 | plan 1 = 2 | plan 2 = 3 | planned = 2 | giveOut = 1 | fixer 2 3 = NONE
            """);
        Script.run("15 a test is a thing to take, too", """
            come 1 3 = 0 | text 01;09 = 5 | bring = 2 | pass 2 = 0 | come 33 1 = 1 | plan 0 = NONE | plan 1 = 0
            """);
        Script.run("15 neither given up nor mended things", """
            come 33 3 = 0 | set 0 1 = 6 | text 01;11 = 5 | bring = 2 | pass 3 = 1 | come 63 1 = 1 | plan 0 = NONE
            plan 1 = NONE
            again 1 = 1 | plan 1 = 1
            """);
    }

    private static void promise15AsManyAsPossible() {
        Script.run("15 the fixer 0 gets the lowest thing, any thing rather than none", """
            come 3 1 = 0 | come 1 1 = 1 | text 11 = 2 | bring = 1 | plan 0 = 0 | plan 1 = NONE | text 01;01 = 5 | bring = 3
            plan 0 = 0 | plan 1 = 1 | clear = 3 | text 01;11 = 5 | bring = 2 | plan 0 = 1 | plan 1 = 0
            """);
        Script.run("15 among plans for as many, the fixer 0 goes before the fixer 1", """
            come 1 1 = 0 | come 3 1 = 1 | come 3 1 = 2 | text 11;01;12;02 = 11 | bring = 4
            plan 0 = 1 | plan 1 = 0 | plan 2 = 2 | planned = 3
            """);
        Script.run("15 the fixers who get nothing are the later ones, if nobody needs them", """
            4x come 1 1 | come 3 1 = 4 | text 01;02;11 = 8 | bring = 3 | plan 0 = 0 | plan 1 = 1 | plan 2 = NONE
            plan 3 = NONE | plan 4 = 2 | planned = 3
            """);
        Script.run("15 eight fixers, sixteen things: each could have any", "set 0 50"
            + "| 8x come 1 1\n" + EIGHT_THINGS + EIGHT_THINGS
            + "plan 0 = 0 | plan 7 = 7 | giveOut = 8 | away 0 true = 254 | pass 9 = 0 | fixer 1 3 = 8 | fixer 7 3 = 14"
            + "| count 2 = 9");
        Script.run("15 the last thing is only for the last fixer, and all before step aside", """
            come 3 1 = 0 | come 6 1 = 1 | come 12 1 = 2 | come 24 1 = 3 | come 17 1 = 4 | text 01;11;21;31;41 = 14 | bring = 5
            plan 0 = 0 | plan 1 = 1 | plan 2 = 2 | plan 3 = 3 | plan 4 = 4 | come 1 1 = 5 | plan 5 = NONE | away 4 true = 47
            plan 0 = 1 | plan 1 = 2 | plan 2 = 3 | plan 3 = 4 | plan 4 = NONE | plan 5 = 0
            """);
    }

    private static void promise16() {
        Script.run("16 nobody, nothing, all", "planned = 0\n" + EIGHT_THINGS + "planned = 0 | come 1 1 = 0 | planned = 1\n"
            + "7x come 1 1 | planned = 8\n" + EIGHT_THINGS + "planned = 8 | away 7 true = 127 | planned = 7 | pass 1 = 0"
            + "| planned = 0");
        Script.run("16 fewer things than fixers", "8x come 1 1 | text 01;02 = 5 | bring = 2 | planned = 2 | plan 2 = NONE");
    }

    private static void promise17() {
        Script.run("17 no such fixer", "ifAway 0 = NO_SUCH | come 1 1 = 0 | ifAway 0 = 0 | ifAway 1 = NO_SUCH"
            + "| ifAway -1 = NO_SUCH");
        Script.run("17 the only fixer", "come 1 1 = 0 | text 01 = 2 | bring = 1 | planned = 1 | ifAway 0 = 0 | fixer 0 2 = 1");
        Script.run("17 one who is away or busy already makes no difference", """
            come 1 1 = 0 | come 1 1 = 1 | come 1 1 = 2 | text 09;09;09;09 = 11 | bring = 4 | ifAway 2 = 2 | away 1 true = 5
            planned = 2 | ifAway 1 = 2 | ifAway 0 = 1 | giveOut = 2 | away 1 false = 7 | planned = 1 | ifAway 0 = 1
            ifAway 1 = 0
            """);
        Script.run("17 the last of eight", "8x come 1 1\n" + EIGHT_THINGS + "ifAway 7 = 7 | ifAway 0 = 7 | ifAway 8 = NO_SUCH");
    }

    private static void promise18() {
        Script.run("18 what: 0 or 1", "bestSkill -1 = BAD_VALUE | bestSkill 2 = BAD_VALUE | bestSkill * = 0 0");
        Script.run("18 of several the least", "text 41;31 = 5 | bring = 2 | bestSkill * = 3 1 | text 01 = 2 | bring = 3"
            + "| bestSkill * = 0 1");
        Script.run("18 each skill, 0 to 5", """
            text 01 = 2 | bring = 1 | bestSkill * = 0 1 | clear = 1 | text 11 = 2 | bring = 1 | bestSkill * = 1 1 | clear = 1
            text 21 = 2 | bring = 1 | bestSkill * = 2 1 | clear = 1 | text 31 = 2 | bring = 1 | bestSkill * = 3 1 | clear = 1
            text 41 = 2 | bring = 1 | bestSkill * = 4 1 | come 16 1 = 0 | pass 2 = 0 | bestSkill * = 5 1
            """);
        Script.run("18 also a ninth one", "8x come 1 1\n" + EIGHT_THINGS + "bestSkill * = 0 8 | text 31 = 2 | bring = 9"
            + "| bestSkill * = 3 9 | text 01 = 2 | bring = 10 | bestSkill * = 0 9 | count 0 = 8 | come 1 1 = TOO_MANY");
        Script.run("18 a ninth one makes room for another", """
            7x come 1 1 | come 3 1 = 7 | text 01;01;01;01;01;01;01;01 = 23 | bring = 8 | planned = 8 | bestSkill * = 0 8
            text 11 = 2 | bring = 9 | planned = 8 | bestSkill * = 0 9
            """);
        Script.run("18 a skill without its part brings nothing", """
            come 2 1 = 0 | come 2 1 = 1 | text 19p0;19p0;01p0 = 14 | bring = 3 | giveOut = 2 | bestSkill * = 0 0 | stock 0 1 = 1
            bestSkill * = 0 1 | text 11p1 = 4 | bring = 4 | clear = 4 | text 41p3 = 4 | bring = 1 | bestSkill * = 4 1
            """);
    }

    private static void promise19() {
        Script.run("19 slots: 1 to 200, what: 0 to 2", """
            ifPassed 0 0 = BAD_VALUE | ifPassed 201 0 = BAD_VALUE | ifPassed 1 -1 = BAD_VALUE | ifPassed 1 3 = BAD_VALUE
            ifPassed 0 3 = BAD_VALUE | ifPassed 1 * = 0 0 0 | ifPassed 200 * = 0 0 0
            """);
        Script.run("19 would be mended, given up, and fail: in one slot", """
            come 33 3 = 0 | set 0 1 = 6 | text 01!1;11 = 7 | bring = 2 | ifPassed 1 * = 0 0 0 | pass 1 = 0
            ifPassed 1 * = 0 1 0
            pass 1 = 0 | ifPassed 1 * = 0 0 1 | pass 1 = 0 | ifPassed 1 * = 0 0 0 | pass 1 = 0 | ifPassed 1 * = 1 0 0
            count 8 = 1
            """);
        Script.run("19 in 200 slots", FIVE_LONG_THINGS + "ifPassed 189 * = 0 0 0 | ifPassed 190 * = 0 0 1"
            + "| ifPassed 200 * = 0 0 2"
            + "| pass 199 = 0 | ifPassed 200 * = 0 0 12 | pass 61 = 0 | ifPassed 199 * = 0 0 10 | ifPassed 200 * = 1 0 10"
            + "| count 7 = 260"
            + "| count 8 = 5 | pass 200 = 1 | count 8 = 15");
    }

    private static void promise20() {
        Script.run("20 0: it is so now", "untilOver = 0 | come 63 3 = 0 | text 01 = 2 | bring = 1 | untilOver = 3 | pass 3 = 1"
            + "| untilOver = 0 | text 01 = 2 | bring = 2 | clear = 2 | untilOver = 0");
        Script.run("20 until no thing waits", "text 01 = 2 | bring = 1 | untilOver = 7 | pass 6 = 0 | untilOver = 1"
            + "| pass 1 = 0"
            + "| untilOver = 0 | again 0 = 1 | untilOver = 7 | set 0 50 = 6 | untilOver = 51");
        Script.run("20 and none is being done", "come 1 1 = 0 | text 09 = 2 | bring = 1 | giveOut = 1 | count 2 = 0"
            + "| untilOver = 15");
        Script.run("20 within 500 slots: 500 are, 501 are not", FIVE_LONG_THINGS
            + "untilOver = 496 | text 01 = 2 | bring = 6 | untilOver = NONE | pass 5 = 0 | untilOver = NONE | pass 1 = 0"
            + "| untilOver = 500"
            + "| pass 1 = 0 | untilOver = 499 | pass 200 = 1 | pass 200 = 0 | pass 98 = 4 | untilOver = 1 | pass 1 = 1"
            + "| untilOver = 0");
    }

    private static void promise21() {
        Script.run("21 what: 0 or 1; of several the least", "bestPart -1 = BAD_VALUE | bestPart 2 = BAD_VALUE"
            + "| bestPart * = 0 0"
            + "| come 63 3 = 0 | text 01 = 2 | bring = 1 | bestPart * = 0 1 | pass 9 = 1 | bestPart * = 0 0");
        for (int part = 0; part < 4; part++) {
            String thing = "01p" + part;
            Script.run("21 each part", "come 63 3 = 0 | text " + thing + ";" + thing + ";" + thing + " = 14 | bring = 3"
            + "| bestPart * = "
                + part + " 3 | ifPassed 200 0 = 2 | count " + (9 + part) + " = 2");
        }
        Script.run("21 the least of two that bring as many", """
            come 63 3 = 0 | set 0 50 = 6 | text 01p3;01p3;01p3;01p1;01p1;01p1 = 29 | bring = 6 | ifPassed 200 0 = 4
            bestPart * = 1 5
            """);
        Script.run("21 in the next 500 slots: one that ends in the 500th, and one a slot later", FIVE_LONG_THINGS
            + "text 01 = 2 | bring = 6 | pass 5 = 0 | bestPart * = 0 5 | pass 1 = 0 | bestPart * = 0 6 | pass 200 = 1"
            + "| bestPart * = 0 5");
        Script.run("21 also above 99", """
            8x come 63 3 | set 0 50 | stock 2 97 = 99 | text 01p2,01p2,01p2,01p2!3;01p2,01p2,01p2,01p2!3 = 43 | bring
            text 01p2,01p2,01p2,01p2!3;01p2,01p2,01p2,01p2!3 = 43 | bring
            text 01p2,01p2,01p2,01p2!3;01p2,01p2,01p2,01p2!3 = 43
            bring | text 01p2,01p2,01p2,01p2!3;01p2,01p2,01p2,01p2!3 = 43 | bring
            text 01p2,01p2,01p2,01p2!3;01p2,01p2,01p2,01p2!3 = 43 | bring
            text 01p2,01p2,01p2,01p2!3;01p2,01p2,01p2,01p2!3 = 43 | bring
            text 01p2,01p2,01p2,01p2!3;01p2,01p2,01p2,01p2!3 = 43 | bring = 14 | text 01p2;01p2 = 9 | bring = 16
            ifPassed 200 0 = 15 | bestPart * = 2 16 | count 11 = 99 | stock 2 1 = TOO_MANY
            """);
    }

    private static void promise22() {
        Script.run("22 1 to 8 characters", "put 0 = BAD_VALUE | put 0x30 = 1 | put 0x3131313131313131 = 9"
            + "| put 0x31313131313131 = 16");
        Script.run("22 a code is 33 to 126", """
            put 0x20 = BAD_VALUE | put 0x21 = 1 | put 0x7e = 2 | put 0x7f = BAD_VALUE | put 0x80 = BAD_VALUE
            put 0xff = BAD_VALUE
            put 1 = BAD_VALUE | put 0x2031313131313131 = BAD_VALUE | put 0x2131313131313131 = 10 | put 0x7e31313131313131 = 18
            put 0x7f31313131313131 = BAD_VALUE | put 0x3131313131313120 = BAD_VALUE | put 0x313131317f313131 = BAD_VALUE
            """);
        Script.run("22 the highest bits are a character, and no sign", """
            put -1 = BAD_VALUE | put 0x8000000000000000 = BAD_VALUE | put 0xff31313131313131 = BAD_VALUE
            put 0xb131313131313131 = BAD_VALUE
            put 0x7fffffffffffffff = BAD_VALUE | put 0xffffffffffffff31 = BAD_VALUE | put 0xffffffff31313131 = BAD_VALUE
            count 15 = 0
            """);
        Script.run("22 everything above 8 bits that are 0 has to be 0", """
            put 0x3100 = BAD_VALUE | put 0x10031 = BAD_VALUE | put 0x310031 = BAD_VALUE | put 0x0100000000000031 = BAD_VALUE
            put 0x8000000000000031 = BAD_VALUE | put 0x0031313131313131 = 7 | put 0x3100313131313131 = BAD_VALUE
            put 0x3131313131313100 = BAD_VALUE | put 0x100000031 = BAD_VALUE | put 0x3100000000 = BAD_VALUE | put 0x3131 = 9
            """);
        Script.run("22 the lowest 8 bits are the last character", "put 0x30317032213b3432 = 8 | fault = 5 | wipe = 8"
            + "| put 0x303170322133 = 6 | bring = 1 | step 0 0 * = 0 1 2 | thing 0 5 = 3");
        Script.run("22 the pad would be 60, and longer than 60", """
            7x put 0x3131313131313131 | put 0x3131313131 = TOO_MANY | put 0x31313131 = 60 | put 0x31 = TOO_MANY
            put 0x3131313131313131 = TOO_MANY | wipe = 60 | put 0x31 = 1
            """);
        Script.run("22 a bad value goes before TOO_MANY", """
            7x put 0x3131313131313131 | put 0x31313131 = 60 | put 0 = BAD_VALUE | put 0x20 = BAD_VALUE | put 0x3100 = BAD_VALUE
            put 0x3131313131313120 = BAD_VALUE | put -1 = BAD_VALUE
            """);
    }

    private static void promise23() {
        Script.run("23 an empty pad, one character, a full pad", """
            wipe = 0 | wipe = 0 | put 0x31 = 1 | wipe = 1 | wipe = 0 | 7x put 0x3131313131313131 | put 0x31313131 = 60
            wipe = 60
            wipe = 0 | count 15 = 0 | fault = 0 | count 16 = 0
            """);
    }

    private static void promise24() {
        Script.run("24 an empty pad, a text, one that is full", """
            fault = 0 | text 01 = 2 | fault = NONE | wipe = 2 | fault = 0 | text x = 1 | fault = 0 | wipe = 1
            text 01;01;01;01;01;01;01;01;01;01;01;01;01;01;01;01;01;01;01;01 = 59 | fault = NONE | text ! = 60 | fault = 60
            """);
        Script.run("24 more than 16 things are no fault", "text 01;01;01;01;01;01;01;01;01;01;01;01;01;01;01;01;01 = 50"
            + "| fault = NONE"
            + "| bring = TOO_MANY | fault = NONE | count 15 = 50");
        Script.run("24 nothing is read twice", "text 01,02,03,04!1;12p3 = 18 | 4x fault = NONE | bring = 2 | thing 0 1 = 4"
            + "| thing 1 1 = 1");
    }

    private static void promise25() {
        Script.run("25 NOT_POSSIBLE if there is none", "undo = NOT_POSSIBLE | pass 1 = 0 | undo = 0 | undo = NOT_POSSIBLE"
            + "| count 7 = 0");
        Script.run("25 at most 6 states: six are kept", "set 0 1 = 6 | set 0 2 = 1 | set 0 3 = 2 | set 0 4 = 3"
            + "| set 0 5 = 4 | set 0 6 = 5"
            + "| count 16 = 6 | undo = 5 | undo = 4 | undo = 3 | undo = 2 | undo = 1 | undo = 0 | count 13 = 6"
            + "| undo = NOT_POSSIBLE");
        Script.run("25 when one more is recorded, the oldest one is dropped", """
            set 0 11 = 6 | set 0 12 = 11 | set 0 13 = 12 | set 0 14 = 13 | set 0 15 = 14 | set 0 16 = 15 | count 16 = 6
            set 0 17 = 16 | count 16 = 6 | undo = 5 | count 13 = 16 | undo = 4 | undo = 3 | undo = 2 | undo = 1 | count 13 = 12
            undo = 0 | count 13 = 11 | undo = NOT_POSSIBLE | count 13 = 11
            """);
        Script.run("25 after an undo there is room again", """
            6x pass 1 | undo = 5 | count 7 = 5 | pass 9 = 0 | count 16 = 6 | undo = 5 | count 7 = 5 | undo = 4 | pass 2 = 0
            count 16 = 5 | pass 3 = 0 | count 16 = 6 | pass 4 = 0 | count 16 = 6 | undo = 5 | undo = 4 | undo = 3
            undo = 2 | undo = 1
            undo = 0 | count 7 = 1 | undo = NOT_POSSIBLE
            """);
        Script.run("25 everything except the pad, and the slots of save()", """
            text 01;02 = 5 | bring = 2 | save 1 = 2 | undo = 0 | count 1 = 0 | count 15 = 0 | text 41 = 2 | pass 1 = 0
            undo = 0
            count 15 = 2 | restore 1 = 2 | undo = 0 | count 1 = 0 | restore 1 = 2 | restore 0 = NOT_POSSIBLE | bring = 3
            """);
    }

    private static void promise25AlsoIfNothingIsDifferent() {
        String title = "25 a change is recorded also if nothing is different then";
        Script.run(title, "giveOut = 0 | count 16 = 1 | clear = 0 | count 16 = 2 | set 0 6 = 6 | count 16 = 3"
            + "| set 1 2 = 2 | count 16 = 4"
            + "| save 0 = 0 | count 16 = 4 | restore 0 = 0 | count 16 = 5 | undo = 4 | undo = 3 | undo = 2 | undo = 1"
            + "| undo = 0");
        Script.run("25 each change is recorded once", """
            come 1 1 = 0 | count 16 = 1 | away 0 true = 0 | count 16 = 2 | stock 0 1 = 3 | count 16 = 3 | text 01 = 2
            bring = 1
            count 16 = 4 | pass 7 = 0 | count 16 = 5 | undo = 4 | pass 8 = 0 | count 16 = 5 | again 0 = 1 | count 16 = 6
            undo = 5 | thing 0 0 = GIVEN_UP | undo = 4 | thing 0 3 = 0 | undo = 3 | count 1 = 0 | undo = 2 | count 9 = 2
            undo = 1 | fixer 0 2 = 1 | undo = 0 | count 0 = 0
            """);
        Script.run("25 neither put, wipe, fault, save nor questions are changes", """
            put 0x31 = 1 | wipe = 1 | fault = 0 | save 0 = 0 | save 1 = 0 | planned = 0 | bestSkill 0 = 0 | bestPart 0 = 0
            ifPassed 9 0 = 0 | untilOver = 0 | count 16 = 0 | undo = NOT_POSSIBLE
            """);
    }

    private static void promise26() {
        Script.run("26 place: 0 or 1", "save -1 = BAD_VALUE | save 2 = BAD_VALUE | save 0 = 0 | save 1 = 0"
            + "| save 256 = BAD_VALUE");
        Script.run("26 how many things there are, and it overwrites", """
            save 0 = 0 | text 01;02 = 5 | bring = 2 | save 0 = 2 | save 1 = 2 | clear = 2 | save 1 = 0 | restore 0 = 2
            step 1 0 1 = 2
            restore 1 = 0
            """);
        Script.run("26 except the pad, the history and what was saved", """
            come 1 1 = 0 | text 0 = 1 | save 0 = 0 | text 1 = 2 | come 2 2 = 1 | save 1 = 0 | restore 0 = 0 | count 15 = 2
            count 16 = 3 | count 0 = 1 | restore 1 = 0 | count 0 = 2 | fixer 1 * = 2 2 1 -6 0 0 | bring = 1
            """);
        Script.run("26 a full morning", "8x come 63 3\n" + EIGHT_THINGS + EIGHT_THINGS + "stock 0 97 = 99 | pass 1 = 0"
            + "| save 0 = 16"
            + "| pass 200 = 16 | clear = 16 | stock 1 1 = 3 | restore 0 = 16 | count 3 = 8 | count 10 = 2 | fixer 7 3 = 7"
            + "| thing 15 3 = 1"
            + "| pass 200 = 16");
    }

    private static void promise27() {
        Script.run("27 NOT_POSSIBLE if nothing was saved there; no such place goes first", """
            restore 0 = NOT_POSSIBLE | restore 1 = NOT_POSSIBLE | restore -1 = BAD_VALUE | restore 2 = BAD_VALUE | save 1 = 0
            restore 0 = NOT_POSSIBLE | restore 2 = BAD_VALUE | restore 1 = 0 | count 16 = 1
            """);
        Script.run("27 what was saved last at a place, which keeps it", """
            text 01 = 2 | bring = 1 | save 0 = 1 | pass 3 = 0 | save 0 = 1 | pass 2 = 0 | restore 0 = 1 | count 7 = 3
            thing 0 3 = 3
            pass 4 = 0 | thing 0 0 = GIVEN_UP | restore 0 = 1 | thing 0 3 = 3 | restore 0 = 1 | count 7 = 3
            """);
        Script.run("27 this is a change, and undone", """
            save 0 = 0 | 8x come 1 1 | restore 0 = 0 | count 0 = 0 | count 16 = 6 | undo = 5 | count 0 = 8 | undo = 4
            count 0 = 7
            """);
        Script.run("27 an undo does not undo the saving, and a restored morning goes on", """
            pass 5 = 0 | save 1 = 0 | undo = 0 | count 7 = 0 | restore 1 = 0 | count 7 = 5 | pass 1 = 0 | count 7 = 6
            restore 1 = 0
            count 7 = 5 | undo = 2 | count 7 = 6
            """);
    }
}
