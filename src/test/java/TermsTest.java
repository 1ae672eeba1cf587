/** The document's terms, each sentence with a boundary by itself: conventions, settings, fixers, things, a slot, texts. */
public final class TermsTest {
    public static void main(String[] args) {
        calls512();
        conventions();
        settings();
        fixers();
        skillsOfFixersAndSteps();
        things();
        steps();
        stock();
        states();
        theTest();
        weakness();
        partOfTheLastStep();
        waiting();
        slotWork();
        slotFreeAtOnce();
        slotTaking();
        slotLongestWaiting();
        slotParts();
        slotGivingUp();
        slotAway();
        texts();
        textsTooEarly();
        textsFourSteps();
        textsFull();
        Checks.end("TermsTest");
    }

    private static void calls512() {
        String title = "An object is used for at most 512 calls";
        Script.run(title, "510x pass 200 = 0 | count 7 = 102000 | undo = 5");
        Script.run(title, "set 0 7 = 6 | 509x set 0 7 = 7 | count 16 = 6 | set 0 1 = 7");
        Script.run(title, "60x put 0x31 | 450x put 0x31 = TOO_MANY | count 15 = 60 | wipe = 60");
        Script.run(title, "8x come 1 1 | 502x come 1 1 = TOO_MANY | count 0 = 8 | count 16 = 6");
        Script.run(title, "511x undo = NOT_POSSIBLE | count 16 = 0");
        // A thing is mended over and over: what is counted goes on.
        StringBuilder script = new StringBuilder("come 63 3 = 0 | stock 0 97 = 99\n");
        for (int i = 0; i < 126; i++) {
            script.append("text 01!3 = 4 | bring = 1 | pass 9 = 1 | clear = 1\n");
        }
        Script.run(title, script + "fixer 0 5 = 1008 | count 8 = 378 | count 1 = 0 | count 7 = 0");
    }

    private static void conventions() {
        Script.run("NONE is returned only if no error applies", """
            come 1 1 = 0 | text 11 = 2 | bring = 1
            plan 0 = NONE | plan 1 = NO_SUCH | plan -6 = NO_SUCH
            fixer 0 3 = NONE | fixer 1 3 = NO_SUCH | fixer 0 -6 = BAD_VALUE
            thing 0 6 = NONE | thing 1 6 = NO_SUCH | thing 0 -6 = BAD_VALUE
            step 0 0 2 = NONE | step 0 1 2 = NO_SUCH | step 0 0 -6 = BAD_VALUE
            fault = 0 | text 01 = 2 | fault = NONE
            """);
        Script.run("Everything is numbered from 0", """
            come 1 1 = 0 | come 2 1 = 1 | text 11;01p3,42p0 = 12 | bring = 2
            fixer 0 0 = 1 | fixer 1 0 = 2 | step 0 0 0 = 1 | step 1 0 0 = 0 | step 1 1 0 = 4
            step 1 0 2 = 3 | step 1 1 2 = 0 | save 0 = 2 | save 1 = 2 | plan 0 = 1 | plan 1 = 0
            """);
        Script.run("Sets are bit masks", """
            8x come 16 1
            away 7 true = 127 | away 0 true = 126 | away 3 true = 118 | away 7 false = 246
            text 41;31 = 5 | bring = 2 | thing 0 7 = 255 | thing 1 7 = 0
            away 6 true = 182 | away 5 true = 150 | away 4 true = 134 | away 2 true = 130 | away 1 true = 128
            away 7 true = 0 | thing 0 7 = 255 | away 0 false = 1
            """);
        for (int fixer = 0; fixer < 8; fixer++) {
            Script.run("Sets are bit masks", fixer + "x come 31 1 | come 32 1 = " + fixer + " | " + (7 - fixer) + "x come 1 1"
                + "| text 01 = 2 | bring = 1 | pass 1 = 0 | thing 0 6 = " + (fixer == 0 ? 1 : 0)
                + "| pass 1 = 0 | thing 0 7 = " + (1 << fixer) + "| thing 0 6 = " + fixer);
        }
    }

    private static void settings() {
        Script.run("PATIENCE (1 to 50; 6)", "count 13 = 6 | set 0 0 = BAD_VALUE | set 0 51 = BAD_VALUE | count 13 = 6");
        Script.run("TEST (1 to 9; 2)", "count 14 = 2 | set 1 0 = BAD_VALUE | set 1 10 = BAD_VALUE | count 14 = 2");
        for (int patience = 1; patience <= 50; patience++) {
            Script.run("PATIENCE (1 to 50)", "set 0 " + patience + " = 6 | count 13 = " + patience + " | count 14 = 2"
                + "| text 01 = 2 | bring = 1 | pass " + patience + " = 0 | thing 0 0 = WAITING | pass 1 = 0"
                + "| thing 0 0 = GIVEN_UP");
        }
        for (int work = 1; work <= 9; work++) {
            Script.run("TEST (1 to 9), the work of a safety test", "set 1 " + work + " = 2 | count 14 = " + work
                + " | count 13 = 6 | come 63 1 = 0 | text 01 = 2 | bring = 1 | pass 2 = 0 | fixer 0 4 = " + work
                + (work == 1 ? "" : " | pass " + (work - 1) + " = 0 | fixer 0 4 = 1") + " | pass 1 = 1");
        }
    }

    private static void fixers() {
        Script.run("There are up to 8 fixers, numbered in the order in which they came", """
            come 1 1 = 0 | come 2 2 = 1 | come 4 3 = 2 | come 8 1 = 3 | come 16 2 = 4 | come 32 3 = 5 | come 63 1 = 6
            count 0 = 7 | come 62 2 = 7 | count 0 = 8 | come 1 1 = TOO_MANY | count 0 = 8
            fixer 0 0 = 1 | fixer 3 0 = 8 | fixer 7 0 = 62 | fixer 7 1 = 2 | fixer 8 0 = NO_SUCH
            """);
        for (int skills = 1; skills <= 63; skills++) {
            int speed = 1 + skills % 3;
            Script.run("A fixer has skills, a set of 0 to 5 (at least one), a speed (1 to 3), and is there at first",
                "come " + skills + " " + speed + " = 0 | fixer 0 * = " + skills + " " + speed + " 1 -6 0 0 | count 6 = 1");
        }
        Script.run("A fixer has at least one skill", "come 0 1 = BAD_VALUE | come 64 1 = BAD_VALUE | count 0 = 0");
        Script.run("A fixer has a speed (1 to 3)", "come 1 0 = BAD_VALUE | come 1 4 = BAD_VALUE | come 1 1 = 0 | come 1 3 = 1");
        Script.run("A fixer is there at first", "come 1 1 = 0 | away 0 false = NOT_POSSIBLE | away 0 true = 0");
    }

    /** Who has one skill takes its steps, and nothing else; the skill 5 is that of safety tests. */
    private static void skillsOfFixersAndSteps() {
        for (int skill = 0; skill <= 5; skill++) {
            String things = "text 01;11;21;31;41 = 14 | bring = 5\n";
            int taken = skill == 5 ? -6 : skill;
            Script.run("A step has a skill (0 to 4)", "come " + (1 << skill) + " 1 = 0\n" + things + "plan 0 = " + taken
                + " | pass 1 = 0 | fixer 0 3 = " + taken + " | count 3 = " + (skill == 5 ? 0 : 1));
            int able = skill == 5 ? 1 : 0;
            Script.run("The skill 5 is that of safety tests", "come 1 1 = 0 | text 01 = 2 | bring = 1 | pass 2 = 0"
                + "| come " + (1 << skill) + " 1 = 1 | planned = " + able + " | thing 0 7 = " + 2 * able
                + "| pass 1 = 0 | count 3 = " + able);
        }
        Script.run("The skill 5 is that of safety tests", """
            come 31 3 = 0 | text 01,11,21,31 = 11 | bring = 1 | pass 5 = 0 | thing 0 * = 0 4 4 1 0 0 -6 0
            come 32 3 = 1 | thing 0 7 = 2 | pass 1 = 0 | thing 0 6 = 1 | pass 1 = 1
            """);
    }

    private static void things() {
        Script.run("There are up to 16 things, numbered in the order in which they were brought", """
            text 01;02;03;04;05;06;07;08;09;11;12;13;14;15;16 = 44 | bring = 15 | text 17;18 = 5 | bring = TOO_MANY | wipe = 5
            text 17 = 2 | bring = 16 | count 1 = 16 | step 0 0 1 = 1 | step 8 0 1 = 9 | step 9 0 0 = 1 | step 15 0 1 = 7
            thing 16 0 = NO_SUCH | text 18 = 2 | bring = TOO_MANY | count 1 = 16
            """);
        Script.run("A thing keeps its number", """
            come 33 3 = 0 | text 11;02;03 = 8 | bring = 3 | pass 20 = 2
            thing 0 0 = GIVEN_UP | thing 1 0 = MENDED | thing 2 0 = MENDED | text 31;41 = 5 | bring = 5
            step 0 0 0 = 1 | step 1 0 1 = 2 | step 2 0 1 = 3 | step 3 0 0 = 3 | step 4 0 0 = 4
            thing 0 0 = GIVEN_UP | thing 1 0 = MENDED | thing 3 0 = WAITING | again 0 = 3 | thing 0 0 = WAITING
            """);
    }

    private static void steps() {
        Script.run("A thing has 1 to 4 steps, to be done one after the other", """
            come 63 3 = 0 | come 63 3 = 1 | text 01,12,23,31 = 11 | bring = 1 | thing 0 1 = 4 | thing 0 2 = 0 | planned = 1
            pass 1 = 0 | thing 0 2 = 0 | fixer 0 3 = 0 | fixer 1 3 = NONE | count 3 = 1
            pass 1 = 0 | thing 0 2 = 1 | fixer 0 4 = 2 | fixer 1 3 = NONE
            pass 1 = 0 | thing 0 2 = 2 | pass 1 = 0 | thing 0 2 = 3 | pass 1 = 0 | thing 0 2 = 4 | thing 0 0 = BEING_DONE
            pass 1 = 1 | thing 0 2 = NONE | fixer 0 5 = 5 | fixer 1 5 = 0
            """);
        Script.run("A thing has 1 to 4 steps", """
            text 01;11,12;21,22,23;31,32,33,34 = 29 | bring = 4 | thing 0 1 = 1 | thing 1 1 = 2 | thing 2 1 = 3 | thing 3 1 = 4
            step 0 0 1 = 1 | step 0 1 1 = NO_SUCH | step 1 1 1 = 2 | step 1 2 1 = NO_SUCH | step 2 2 1 = 3
            step 2 3 1 = NO_SUCH
            step 3 3 1 = 4 | step 3 4 1 = NO_SUCH | text 41,42,43,44,41 = 14 | fault = 11 | bring = BAD_TEXT
            """);
        for (int value = 0; value <= 9; value++) {
            int work = Math.max(value, 1);
            int skill = Math.min(value, 4);
            int part = Math.min(value, 3);
            Script.run("A step has a skill (0 to 4), a work (1 to 9), and a part (0 to 3), or none",
                "text " + skill + work + "p" + part + "," + skill + work + " = 7 | bring = 1"
                + "| step 0 0 * = " + skill + " " + work
                + " " + part + " | step 0 1 * = " + skill + " " + work + " -6");
        }
    }

    private static void stock() {
        for (int part = 0; part < 4; part++) {
            int count = 9 + part;
            Script.run("There is a stock of each of the four parts (0 to 99; 2 of each at first)",
                "count 9 = 2 | count 10 = 2 | count 11 = 2 | count 12 = 2 | come 1 1 = 0 | come 1 1 = 1 | come 1 1 = 2"
                + "| text 09p" + part + ";09p" + part + ";09p" + part + " = 14 | bring = 3 | pass 1 = 0"
                + "| count " + count + " = 0"
                + "| fixer 2 3 = NONE | stock " + part + " 99 = 99 | stock " + part + " 1 = TOO_MANY | count " + count + " = 99"
                + "| pass 1 = 0 | fixer 2 3 = 2 | count " + count + " = 98 | stock " + part + " 2 = TOO_MANY"
                + "| stock " + part + " 1 = 99");
        }
    }

    private static void states() {
        Script.run("A thing is in one of these states: 0 waiting, 1 being done, 2 mended, 3 given up", """
            come 33 3 = 0 | set 0 2 = 6 | text 03;11 = 5 | bring = 2
            count 2 = 2 | count 3 = 0 | count 4 = 0 | count 5 = 0
            pass 1 = 0 | thing 0 0 = 1 | thing 1 0 = 0 | count 2 = 1 | count 3 = 1
            pass 2 = 1 | thing 0 0 = 2 | thing 1 0 = 3 | count 2 = 0 | count 3 = 0 | count 4 = 1 | count 5 = 1
            """);
    }

    private static void theTest() {
        Script.run("The safety test has no part", """
            come 63 3 = 0 | text 01p0,01p0 = 9 | bring = 1 | pass 2 = 0 | count 9 = 0
            pass 1 = 0 | thing 0 2 = 2 | thing 0 0 = BEING_DONE | count 9 = 0 | pass 1 = 1
            """);
        Script.run("The test's work is TEST as it is when a fixer takes the thing for it", """
            come 1 1 = 0 | come 32 1 = 1 | away 1 true = 1 | set 1 9 = 2 | text 01 = 2 | bring = 1 | pass 3 = 0
            thing 0 2 = 1 | set 1 4 = 9 | away 1 false = 3 | pass 1 = 0 | fixer 1 4 = 4 | set 1 1 = 4 | fixer 1 4 = 4
            pass 3 = 0 | fixer 1 4 = 1 | pass 1 = 1
            """);
        Script.run("The test's work stays when TEST is another one later", """
            come 63 3 = 0 | set 1 9 = 2 | text 01 = 2 | bring = 1 | pass 2 = 0 | fixer 0 4 = 9 | set 1 1 = 9 | pass 1 = 0
            fixer 0 4 = 6 | set 1 9 = 1 | pass 1 = 0 | fixer 0 4 = 3 | pass 1 = 1
            """);
        Script.run("The test's work is TEST, also when it is given out", """
            come 32 1 = 0 | come 1 1 = 1 | away 0 true = 2 | text 01 = 2 | bring = 1 | pass 2 = 0 | set 1 7 = 2
            away 0 false = 3 | giveOut = 1 | fixer 0 4 = 7 | set 1 1 = 7 | pass 6 = 0 | pass 1 = 1
            """);
        Script.run("A test once more has the work that TEST is then", """
            come 63 1 = 0 | set 1 1 = 2 | text 01!1 = 4 | bring = 1 | pass 3 = 0 | thing 0 4 = 1 | set 1 5 = 1 | pass 1 = 0
            thing 0 2 = 1 | fixer 0 4 = 5
            """);
    }

    /** A thing of n steps and the weakness w takes n + 1 + 2 * w steps, each of which is one slot here. */
    private static void weakness() {
        for (int steps = 1; steps <= 4; steps++) {
            for (int weakness = 0; weakness <= 3; weakness++) {
                String text = "01,01,01,01".substring(0, 3 * steps - 1) + "!" + weakness;
                int all = steps + 1 + 2 * weakness;
                Script.run("A thing with a weakness, w (0 to 3), fails its first w tests", "come 63 3 = 0 | text " + text
                    + " | bring = 1 | thing 0 5 = " + weakness + " | ifPassed " + all + " 0 = 0"
                    + "| ifPassed " + (all + 1) + " 0 = 1"
                    + " | ifPassed 200 2 = " + weakness + " | untilOver = " + (all + 1)
                    + " | pass " + all + " = 0 | thing 0 4 = " + weakness + " | thing 0 2 = " + steps
                    + " | pass 1 = 1 | thing 0 4 = " + weakness + " | count 8 = " + weakness + " | fixer 0 5 = " + all);
            }
        }
        Script.run("When a test fails, the last step has to be done once more, and then the test", """
            come 63 3 = 0 | text 01,12,23,34!1 = 13 | bring = 1 | pass 7 = 0 | thing 0 * = 1 4 3 0 1 1 0 1
            fixer 0 4 = 4 | pass 2 = 0 | thing 0 2 = 4 | pass 1 = 1
            """);
        Script.run("When a test fails, the last step has to be done once more, by somebody who can", """
            come 2 1 = 0 | come 32 2 = 1 | text 11!1 = 4 | bring = 1 | pass 2 = 0 | fixer 1 3 = 0 | away 0 true = 2
            pass 1 = 0 | thing 0 * = 0 1 0 1 1 1 -6 1 | fixer 1 3 = NONE | fixer 1 5 = 1 | count 8 = 1
            """);
    }

    private static void partOfTheLastStep() {
        Script.run("The last step's part is needed once more, too", """
            come 63 3 = 0 | text 01p3!1 = 6 | bring = 1 | pass 1 = 0 | count 12 = 1 | pass 2 = 0 | thing 0 2 = 0 | count 12 = 0
            thing 0 0 = BEING_DONE | pass 2 = 1 | count 12 = 0
            """);
        Script.run("Without the last step's part it waits, and is given up", """
            come 63 3 = 0 | text 11p2,01p3!2 = 11 | bring = 1 | pass 6 = 0 | thing 0 * = 0 2 1 1 2 2 -6 1 | count 12 = 0
            count 11 = 1 | planned = 0 | pass 5 = 0 | thing 0 3 = 6 | pass 1 = 0 | thing 0 * = 3 2 1 0 2 2 -6 1
            stock 3 1 = 1 | again 0 = 1 | pass 1 = 0 | thing 0 0 = BEING_DONE | count 12 = 0 | pass 2 = 1 | count 11 = 1
            """);
    }

    private static void waiting() {
        Script.run("A thing has a count of slots for which it waited since it became waiting last", """
            come 1 1 = 0 | text 02,02 = 5 | bring = 1 | thing 0 3 = 0 | away 0 true = 0 | pass 2 = 0 | thing 0 3 = 2
            away 0 false = 1 | pass 1 = 0 | thing 0 3 = 0 | away 0 true = 0 | pass 1 = 0 | thing 0 3 = 0
            pass 1 = 0 | thing 0 2 = 1 | thing 0 3 = 1 | pass 2 = 0 | thing 0 3 = 3 | away 0 false = 1 | pass 1 = 0
            thing 0 3 = 0
            pass 2 = 0 | thing 0 2 = 2 | thing 0 3 = 1 | pass 5 = 0 | thing 0 3 = 6 | pass 1 = 0 | thing 0 3 = 0
            thing 0 0 = GIVEN_UP
            """);
    }

    private static void slotWork() {
        Script.run("1. As much work as the speed is: exactly all of it", """
            come 1 3 = 0 | come 2 3 = 1 | come 4 3 = 2 | text 03;14;29 = 8 | bring = 3 | pass 1 = 0
            fixer 0 4 = 3 | fixer 1 4 = 4 | fixer 2 4 = 9 | pass 1 = 0 | fixer 0 4 = 0 | fixer 1 4 = 1 | fixer 2 4 = 6
            thing 0 2 = 1 | thing 1 2 = 0 | pass 1 = 0 | fixer 1 4 = 0 | fixer 2 4 = 3 | pass 1 = 0 | fixer 2 4 = 0
            count 2 = 3
            """);
        Script.run("1. What is too much of the speed is lost", """
            come 1 3 = 0 | text 01,09,01 = 8 | bring = 1 | pass 2 = 0 | thing 0 2 = 1 | fixer 0 4 = 9
            """);
        Script.run("1. If it is not mended, it waits (for 0 slots); the fixer is free", """
            come 1 1 = 0 | text 01,11 = 5 | bring = 1 | pass 1 = 0 | count 6 = 0 | pass 1 = 0
            thing 0 * = 0 2 1 1 0 0 -6 0 | fixer 0 * = 1 1 1 -6 0 1 | count 6 = 1
            """);
        Script.run("1. Behind the test that it does not fail, it is mended", """
            come 63 1 = 0 | text 01 = 2 | bring = 1 | pass 3 = 0 | thing 0 0 = BEING_DONE | thing 0 2 = 1
            pass 1 = 1 | thing 0 * = 2 1 -6 0 0 0 -6 0 | fixer 0 * = 63 1 1 -6 0 2 | count 6 = 1 | pass 1 = 0
            """);
        Script.run("1. Several fixers end their work in one slot", """
            8x come 63 2 | text 02;02;02;02;02;02;02;02 = 23 | bring = 8 | pass 1 = 0 | count 3 = 8 | pass 1 = 0 | pass 1 = 8
            count 4 = 8 | fixer 0 5 = 2 | fixer 7 5 = 2
            """);
    }

    private static void slotFreeAtOnce() {
        Script.run("2. Who was freed in this slot takes a thing in it", """
            come 1 1 = 0 | text 01;01;01 = 8 | bring = 3 | pass 1 = 0 | fixer 0 3 = 0 | pass 1 = 0 | fixer 0 3 = 1
            fixer 0 4 = 1
            pass 1 = 0 | fixer 0 3 = 2 | fixer 0 5 = 2
            """);
        Script.run("2. A thing whose step was done in this slot is taken in it, by a lower number, too", """
            come 2 1 = 0 | come 1 1 = 1 | text 01,11 = 5 | bring = 1 | pass 1 = 0 | fixer 0 3 = NONE | fixer 1 3 = 0
            pass 1 = 0 | fixer 0 3 = 0 | fixer 1 3 = NONE | thing 0 3 = 0
            """);
        Script.run("2. Who takes a thing does no work on it in that slot", "come 1 3 = 0 | text 01 = 2 | bring = 1"
            + "| pass 1 = 0 | fixer 0 4 = 1 | thing 0 0 = BEING_DONE");
    }

    private static void slotTaking() {
        Script.run("2. By ascending numbers: the lowest one takes the only thing", """
            come 2 1 = 0 | come 1 1 = 1 | come 1 3 = 2 | text 09 = 2 | bring = 1 | pass 1 = 0
            fixer 0 3 = NONE | fixer 1 3 = 0 | fixer 2 3 = NONE
            """);
        Script.run("2. Each fixer takes one thing, and each thing is taken by one", """
            8x come 1 1 | text 09;09;09;09;09;09;09;09;09 = 26 | bring = 9 | pass 1 = 0 | count 3 = 8 | count 2 = 1
            fixer 0 3 = 0 | fixer 4 3 = 4 | fixer 7 3 = 7 | thing 8 3 = 1
            """);
        Script.run("2. A slot looks at one fixer after the other, the plan at all of them", """
            come 3 1 = 0 | come 1 1 = 1 | text 09;19 = 5 | bring = 2 | planned = 2 | plan 0 = 1 | pass 1 = 0
            fixer 0 3 = 0 | fixer 1 3 = NONE | thing 1 3 = 1
            """);
    }

    private static void slotLongestWaiting() {
        Script.run("2. The one that waited longest, of several the lowest one", """
            come 4 1 = 0 | text 09;09 = 5 | bring = 2 | pass 1 = 0 | text 09 = 2 | bring = 3 | come 1 1 = 1
            pass 1 = 0 | fixer 1 3 = 0 | come 1 1 = 2 | pass 1 = 0 | fixer 2 3 = 1 | come 1 1 = 3 | pass 1 = 0 | fixer 3 3 = 2
            """);
        Script.run("2. The one that waited longest, though its number is the highest one", """
            come 1 1 = 0 | text 01,11;12 = 8 | bring = 2 | pass 2 = 0 | thing 0 3 = 1 | thing 1 3 = 2
            come 2 1 = 1 | pass 1 = 0 | fixer 1 3 = 1 | thing 0 3 = 2
            """);
        Script.run("2. A thing that waited PATIENCE slots is taken before it is given up", """
            set 0 1 = 6 | text 01 = 2 | bring = 1 | pass 1 = 0 | thing 0 3 = 1 | come 1 1 = 0 | pass 1 = 0
            thing 0 0 = BEING_DONE
            """);
    }

    private static void slotParts() {
        Script.run("2. The last part is taken by the lowest fixer, and the others look on", """
            come 1 1 = 0 | come 1 1 = 1 | come 1 1 = 2 | come 1 1 = 3 | text 09p0;09p0;09p0;09 = 17 | bring = 4
            pass 1 = 0 | fixer 0 3 = 0 | fixer 1 3 = 1 | fixer 2 3 = 3 | fixer 3 3 = NONE | count 9 = 0 | count 10 = 2
            thing 2 3 = 1
            """);
        Script.run("2. Without its part a thing is passed over, however long it waited", """
            come 1 1 = 0 | come 1 1 = 1 | text 03p1;03p1;09p1 = 14 | bring = 3 | pass 3 = 0 | text 09 = 2 | bring = 4
            pass 1 = 0 | thing 2 3 = 4 | fixer 0 3 = 3 | fixer 1 3 = NONE
            stock 1 1 = 1 | pass 1 = 0 | fixer 1 3 = 2 | count 10 = 0
            """);
        Script.run("2. The part is taken when the step is taken, not when it is done", """
            come 1 1 = 0 | text 09p2,09p2 = 9 | bring = 1 | count 11 = 2 | pass 1 = 0 | count 11 = 1 | pass 8 = 0 | count 11 = 1
            pass 1 = 0 | thing 0 2 = 1 | count 11 = 0
            """);
    }

    private static void slotGivingUp() {
        Script.run("3. A thing that waits still has waited a slot more, one that is taken has not", """
            come 1 1 = 0 | text 09;09 = 5 | bring = 2 | pass 1 = 0 | thing 0 3 = 0 | thing 1 3 = 1
            pass 5 = 0 | thing 0 3 = 0 | thing 1 3 = 6
            """);
        Script.run("3. If that is more than PATIENCE then, it is given up: not if it is as much", """
            text 01;02 = 5 | bring = 2 | pass 6 = 0 | thing 0 3 = 6 | thing 0 0 = WAITING | count 5 = 0
            pass 1 = 0 | thing 0 * = 3 1 0 0 0 0 -6 0 | count 5 = 2 | pass 9 = 0 | thing 1 3 = 0
            """);
        Script.run("3. The PATIENCE of that slot counts", """
            text 01 = 2 | bring = 1 | pass 6 = 0 | set 0 7 = 6 | pass 1 = 0 | thing 0 3 = 7 | set 0 50 = 7 | pass 43 = 0
            thing 0 3 = 50 | set 0 1 = 50 | thing 0 0 = WAITING | pass 1 = 0 | thing 0 0 = GIVEN_UP
            """);
        Script.run("3. What is given up is not taken any more", """
            set 0 1 = 6 | text 01 = 2 | bring = 1 | pass 2 = 0 | come 63 3 = 0 | planned = 0 | pass 9 = 0 | thing 0 0 = GIVEN_UP
            """);
    }

    private static void slotAway() {
        Script.run("A fixer who is away and doing something goes on with it, but takes nothing more", """
            come 63 1 = 0 | text 03;02 = 5 | bring = 2 | pass 1 = 0 | away 0 true = 0 | fixer 0 * = 63 1 0 0 3 0
            pass 2 = 0 | fixer 0 4 = 1 | pass 1 = 0 | fixer 0 * = 63 1 0 -6 0 1 | thing 0 3 = 1 | thing 1 3 = 4
            giveOut = 0 | pass 1 = 0 | fixer 0 3 = NONE | away 0 false = 1 | pass 1 = 0 | fixer 0 3 = 1
            """);
        Script.run("A fixer who is away does a test to its end, too", """
            come 63 1 = 0 | text 01!1 = 4 | bring = 1 | pass 2 = 0 | away 0 true = 0 | pass 2 = 0 | thing 0 4 = 1
            thing 0 3 = 1
            """);
        Script.run("The slots are counted from 0", "count 7 = 0 | pass 1 = 0 | count 7 = 1 | giveOut = 0 | count 7 = 1");
    }

    private static void texts() {
        Script.run("A skill is a digit from 0 to 4", "text 01;41 = 5 | fault = NONE | text ;51 = 8 | fault = 6 | wipe = 8"
            + "| text /1 = 2 | fault = 0 | wipe = 2 | text 41,51 = 5 | fault = 3 | wipe = 5 | text 41,/1 = 5 | fault = 3");
        Script.run("A work is a digit from 1 to 9", "text 01;09 = 5 | fault = NONE | text ;00 = 8 | fault = 7 | wipe = 8"
            + "| text 0: = 2 | fault = 1 | wipe = 2 | text 01,10 = 5 | fault = 4 | wipe = 5 | text 0 = 1 | fault = 1");
        Script.run("A part is a digit from 0 to 3", "text 01p0;01p3 = 9 | fault = NONE | text ;01p4 = 14 | fault = 13"
            + "| wipe = 14 | text 01p/ = 4 | fault = 3 | wipe = 4 | text 01p = 3 | fault = 3 | text p = 4 | fault = 3");
        Script.run("A weakness is a digit from 0 to 3", "text 01!0;01!3 = 9 | fault = NONE | text ;01!4 = 14 | fault = 13"
            + "| wipe = 14 | text 01!/ = 4 | fault = 3 | wipe = 4 | text 01! = 3 | fault = 3 | text ! = 4 | fault = 3");
        Script.run("A weakness is 0 without \"!\", and stands behind the last step", "text 01!3;02;03p1!1 = 14 | bring = 3"
            + "| thing 0 5 = 3 | thing 1 5 = 0 | thing 2 5 = 1 | text 01!1,02 = 7 | fault = 4 | wipe = 7 | text 01!1p0 = 6"
            + "| fault = 4");
        Script.run("One digit each, one part, one weakness", "text 012 = 3 | fault = 2 | wipe = 3 | text 01p12 = 5 | fault = 4"
            + "| wipe = 5 | text 01p1p1 = 6 | fault = 4 | wipe = 6 | text 01!12 = 5 | fault = 4 | wipe = 5"
            + "| text 01!1!1 = 6 | fault = 4");
        Script.run("The first character that cannot stand at its place, when there are more", "text 0x,5;! = 6 | fault = 1");
    }

    private static void textsTooEarly() {
        String title = "If the text ends too early (also if it is empty), the fault is its length";
        Script.run(title, "fault = 0 | bring = BAD_TEXT | text 0 = 1 | fault = 1 | text 1 = 2 | fault = NONE | text p = 3"
            + "| fault = 3"
            + "| text 3 = 4 | fault = NONE | text , = 5 | fault = 5 | text 4 = 6 | fault = 6 | text 9 = 7 | fault = NONE"
            + "| text ! = 8 | fault = 8 | text 0 = 9 | fault = NONE | text ; = 10 | fault = 10 | bring = BAD_TEXT"
            + "| text 2 = 11 | fault = 11 | text 2 = 12 | fault = NONE | bring = 2 | fault = 0");
    }

    private static void textsFourSteps() {
        Script.run("There are at most 4 steps in a thing: the fault is a fourth \",\" of a thing", """
            text 01,02,03,04 = 11 | fault = NONE | text , = 12 | fault = 11 | bring = BAD_TEXT | wipe = 12
            text 01p0,02p1,03p2,04p3, = 20 | fault = 19 | wipe = 20 | text 01,02,03,04! = 12 | fault = 12 | text 2, = 14
            fault = 13
            """);
        Script.run("Each thing has four steps of its own", """
            text 01,02,03,04;11,12,13,14;21,22,23,24 = 35 | fault = NONE | text , = 36 | fault = 35 | wipe = 36
            text 01,02,03;11,12,13,14, = 21 | fault = 20 | wipe = 21 | text 01,02,03;11,12,13,14;21 = 23 | bring = 3
            thing 0 1 = 3 | thing 1 1 = 4 | thing 2 1 = 1
            """);
    }

    private static void textsFull() {
        Script.run("The pad is a text of at most 60 characters", """
            text 01p0,02p1,03p2,04p3!3;11p0,12p1,13p2,14p3!2;21,22,23,24!1 = 57 | fault = NONE | text ;31 = 60 | fault = NONE
            text x = TOO_MANY | text 01p0,02p = TOO_MANY | fault = NONE | bring = 4 | count 15 = 0
            step 0 3 * = 0 4 3 | step 1 3 * = 1 4 3 | step 2 3 * = 2 4 -6 | step 3 0 * = 3 1 -6
            thing 0 5 = 3 | thing 1 5 = 2 | thing 2 5 = 1 | thing 3 5 = 0
            """);
        Script.run("A full pad that ends too early", "text 01,01,01,01;01,01,01,01;01,01,01,01;01,01,01,01;01,01,01,01; = 60"
            + "| fault = 60 | bring = BAD_TEXT | wipe = 60 | fault = 0");
        Script.run("A full pad whose last character cannot stand there",
            "text 01,01,01,01;01,01,01,01;01,01,01,01;01,01,01,01;01,01,01,01, = 60 | fault = 59 | bring = BAD_TEXT");
        Script.run("As many things as a pad holds", "text 01;01;01;01;01;01;01;01;01;01;01;01;01;01;01;01;01;01;01;01 = 59"
            + "| fault = NONE | bring = TOO_MANY | text ; = 60 | fault = 60 | bring = BAD_TEXT");
    }
}
