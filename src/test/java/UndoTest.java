/** Promises 25 to 27: undo, save and restore. */
public final class UndoTest {
    private static final int NO_SUCH = -1, BAD_VALUE = -2, NOT_POSSIBLE = -5, NONE = -6;

    public static void main(String[] args) {
        promise25EachChange();
        promise25AtMostSix();
        promise25NotThePad();
        promise25Errors();
        promise25WholeState();
        promise26Save();
        promise26KeepsAll();
        promise27Restore();
        promise27NotThePad();
        Checks.end("UndoTest");
    }

    private static void dueSame(String call, String got, String want) {
        Checks.due(call + ", not as before: " + got + " / " + want, got.equals(want) ? 1 : 0, 1);
    }

    /** A morning in which everything is somewhere in the middle; its history is full. */
    private static MendingMornings busyMorning() {
        MendingMornings x = new MendingMornings();
        x.set(0, 2);
        x.set(1, 3);
        x.come(3, 1);
        x.come(35, 3);
        x.come(4, 2);
        x.away(2, true);
        x.stock(2, 3);
        Checks.bring(x, "01p0!1;19p1,22;38p3!2;02,13p2!3;11");
        x.pass(4);
        return x;
    }

    private static int change(MendingMornings x, int which) {
        switch (which) {
            case 0: return x.set(0, 9);
            case 1: return x.set(1, 9);
            case 2: return x.come(63, 3);
            case 3: return x.away(0, true);
            case 4: return x.away(2, false);
            case 5: return Checks.bring(x, "01p3,22!1;33");
            case 6: return x.stock(0, 7);
            case 7: return x.again(2);
            case 8: return x.pass(1);
            case 9: return x.pass(40);
            case 10: return x.giveOut();
            case 11: return x.clear();
            case 12: return x.restore(0);
            default: return x.set(0, x.count(13));
        }
    }

    private static void promise25EachChange() {
        for (int which = 0; which < 14; which++) {
            MendingMornings x = busyMorning();
            x.save(0);
            x.come(1, 2);
            String before = Checks.seen(x);
            Checks.due("25 full", x.count(16), 6);
            Checks.due("25 change " + which, change(x, which) >= 0 ? 1 : 0, 1);
            Checks.due("25 still full", x.count(16), 6);
            Checks.due("25 undo " + which, x.undo(), 5);
            dueSame("25 undo " + which, Checks.seen(x), before);
        }
        Checks.due("25 given up, for again", busyMorning().thing(2, 0), 3);
    }

    private static void promise25AtMostSix() {
        MendingMornings x = new MendingMornings();
        Checks.due("25 none", x.undo(), NOT_POSSIBLE);
        for (int i = 1; i <= 20; i++) {
            x.pass(i);
            Checks.due("25 history", x.count(16), Math.min(i, 6));
        }
        int slots = 210;
        for (int i = 20; i > 14; i--) {
            Checks.due("25 undo", x.undo(), i - 15);
            slots -= i;
            Checks.due("25 slots", x.count(7), slots);
        }
        Checks.due("25 none", x.undo(), NOT_POSSIBLE);
        Checks.due("25 slots", x.count(7), slots);
        x.pass(1);
        x.pass(2);
        Checks.due("25 undo", x.undo(), 1);
        x.pass(4);
        Checks.due("25 history", x.count(16), 2);
        Checks.due("25 slots", x.count(7), slots + 5);
        Checks.due("25 undo", x.undo(), 1);
        Checks.due("25 undo", x.undo(), 0);
        Checks.due("25 slots", x.count(7), slots);
    }

    private static void promise25NotThePad() {
        MendingMornings x = new MendingMornings();
        x.come(1, 1);
        Checks.write(x, "01;02");
        Checks.due("25 put is no change", x.count(16), 1);
        Checks.due("25 bring", x.bring(), 2);
        Checks.due("25 undo", x.undo(), 1);
        Checks.due("25 no things", x.count(1), 0);
        Checks.due("25 the pad stays empty", x.count(15), 0);
        Checks.write(x, "33");
        Checks.due("25 undo", x.undo(), 0);
        Checks.due("25 the pad stays", x.count(15), 2);
        Checks.due("25 the pad stays", x.bring(), 1);
        Checks.due("25 its skill", x.step(0, 0, 0), 3);
        Checks.write(x, "4");
        x.wipe();
        Checks.due("25 wipe is no change", x.count(16), 1);
    }

    private static void promise25Errors() {
        MendingMornings x = new MendingMornings();
        x.come(1, 1);
        x.set(0, 0);
        x.come(0, 0);
        x.away(0, false);
        x.away(1, false);
        x.bring();
        x.stock(0, 0);
        x.stock(4, 1);
        x.stock(0, 98);
        x.again(0);
        x.pass(0);
        x.restore(0);
        x.restore(2);
        x.put(0);
        x.fault();
        x.save(0);
        x.save(2);
        x.planned();
        x.plan(0);
        x.ifAway(0);
        x.bestSkill(0);
        x.bestPart(0);
        x.ifPassed(9, 0);
        x.untilOver();
        Checks.due("25 only one change", x.count(16), 1);
        Checks.due("25 undo", x.undo(), 0);
        Checks.due("25 nobody", x.count(0), 0);
    }

    /** Six changes back and forth: each state on the way back is the one that was there. */
    private static void promise25WholeState() {
        MendingMornings x = busyMorning();
        String[] states = new String[6];
        int[] changes = {8, 6, 4, 10, 5, 9};
        for (int i = 0; i < 6; i++) {
            states[i] = Checks.seen(x);
            change(x, changes[i]);
        }
        for (int i = 5; i >= 0; i--) {
            Checks.due("25 undo", x.undo(), i);
            dueSame("25 state " + i, Checks.seen(x), states[i]);
        }
    }

    private static void promise26Save() {
        MendingMornings x = new MendingMornings();
        int[] nowhere = {-1, 2, Integer.MIN_VALUE, Integer.MAX_VALUE};
        for (int place : nowhere) {
            Checks.due("26 save(" + place + ")", x.save(place), BAD_VALUE);
        }
        Checks.due("26 save", x.save(0), 0);
        Checks.bring(x, "01;02");
        Checks.due("26 save", x.save(1), 2);
        Checks.due("26 no change", x.count(16), 1);
        x.clear();
        Checks.due("26 restore", x.restore(1), 2);
        Checks.due("26 restore", x.restore(0), 0);
        Checks.bring(x, "03");
        Checks.due("26 overwrites", x.save(1), 1);
        x.clear();
        Checks.due("26 the later one", x.restore(1), 1);
        Checks.due("26 its work", x.step(0, 0, 1), 3);
        Checks.due("26 the other place", x.restore(0), 0);
    }

    private static void promise26KeepsAll() {
        MendingMornings x = busyMorning();
        x.save(0);
        String before = Checks.seen(x);
        for (int which = 0; which < 12; which++) {
            change(x, which);
        }
        Checks.due("26 restore", x.restore(0), 5);
        dueSame("26 all is there", Checks.seen(x), before);
        x.pass(3);
        String later = Checks.seen(x);
        x.save(1);
        x.undo();
        Checks.due("26 the place keeps it", x.restore(0), 5);
        dueSame("26 all is there", Checks.seen(x), before);
        Checks.due("26 what was saved is not undone", x.restore(1), 5);
        dueSame("26 the later one", Checks.seen(x), later);
        Checks.due("26 with another history", x.count(16), 6);
    }

    private static void promise27Restore() {
        MendingMornings x = new MendingMornings();
        Checks.due("27 nothing saved", x.restore(0), NOT_POSSIBLE);
        Checks.due("27 nothing saved", x.restore(1), NOT_POSSIBLE);
        Checks.due("27 nowhere", x.restore(-1), BAD_VALUE);
        Checks.due("27 nowhere", x.restore(2), BAD_VALUE);
        Checks.due("27 nowhere", x.restore(Integer.MIN_VALUE), BAD_VALUE);
        Checks.due("27 nowhere", x.restore(Integer.MAX_VALUE), BAD_VALUE);
        x.save(1);
        Checks.due("27 nothing saved there", x.restore(0), NOT_POSSIBLE);
        Checks.due("27 nothing recorded", x.count(16), 0);
        x.come(1, 1);
        Checks.bring(x, "01;02");
        Checks.due("27 restore", x.restore(1), 0);
        Checks.due("27 recorded", x.count(16), 3);
        Checks.due("27 nobody", x.fixer(0, 0), NO_SUCH);
        Checks.due("27 no thing", x.thing(0, 0), NO_SUCH);
        Checks.due("27 undo", x.undo(), 2);
        Checks.due("27 two things", x.count(1), 2);
        Checks.due("27 someone", x.fixer(0, 3), NONE);
        x.pass(2);
        Checks.due("27 restore", x.restore(1), 0);
        Checks.due("27 restore once more", x.restore(1), 0);
        Checks.due("27 slots", x.count(7), 0);
        x.come(63, 3);
        Checks.due("27 the place keeps it", x.restore(1), 0);
        Checks.due("27 nobody", x.count(0), 0);
    }

    private static void promise27NotThePad() {
        MendingMornings x = new MendingMornings();
        Checks.write(x, "01");
        x.save(0);
        Checks.write(x, ";02");
        x.restore(0);
        Checks.due("27 the pad stays", x.count(15), 5);
        Checks.due("27 both", x.bring(), 2);
        x.restore(0);
        Checks.due("27 the pad stays empty", x.count(15), 0);
        Checks.due("27 the history goes on", x.count(16), 3);
    }
}
