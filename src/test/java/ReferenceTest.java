import java.util.Random;

/** Long runs of calls, the same ones each time, of the program and of the reference side by side. */
public final class ReferenceTest {
    // A call here makes up to 11 calls of the object, on average some 3: far fewer than the 512 that the document allows.
    private static final int RUNS = 3000, CALLS = 110;
    private static final int[] WILD = {Integer.MIN_VALUE, -7, -6, -1, 0, 1, 2, 3, 4, 5, 6, 7, 8, 9, 10, 15, 16, 17, 31, 32,
        49, 50, 51, 63, 64, 99, 100, 200, 201, 65535, 65536, Integer.MAX_VALUE};

    private final Random random;
    private final MendingMornings program = new MendingMornings();
    private final Reference reference = new Reference();
    private final int wildness;
    private final int few;
    private String last = "";

    private ReferenceTest(int run) {
        random = new Random(run);
        wildness = run % 4 == 0 ? 5 : 60;
        few = run % 3;
    }

    public static void main(String[] args) {
        for (int run = 0; run < RUNS; run++) {
            new ReferenceTest(run).compare(run);
        }
        Checks.end("ReferenceTest");
    }

    private void compare(int run) {
        for (int call = 0; call < CALLS; call++) {
            long[] answers = random.nextInt(5) < 2 ? change() : random.nextInt(4) == 0 ? other() : look();
            Checks.due("run " + run + ", call " + call + ": " + last, answers[0], answers[1]);
            if (answers[0] != answers[1]) {
                return;
            }
        }
    }

    private int number(int least, int most) {
        if (random.nextInt(wildness) == 0) {
            return WILD[random.nextInt(WILD.length)];
        }
        return least + random.nextInt(most - least + 1);
    }

    private long[] answers(String call, long got, long due) {
        last = call;
        return new long[] {got, due};
    }

    private long[] change() {
        int a;
        int b;
        switch (random.nextInt(13)) {
            case 0:
                a = number(0, 1);
                b = number(1, a == 1 ? 9 : random.nextBoolean() ? 50 : 4);
                return answers("set(" + a + ", " + b + ")", program.set(a, b), reference.set(a, b));
            case 1:
                a = random.nextBoolean() ? 1 << random.nextInt(6) | 1 << random.nextInt(6) : number(1, 63);
                b = number(1, 3);
                return answers("come(" + a + ", " + b + ")", program.come(a, b), reference.come(a, b));
            case 2:
            case 3:
                a = number(0, Math.max(0, program.count(0) - 1));
                boolean isAway = random.nextInt(3) == 0;
                return answers("away(" + a + ", " + isAway + ")", program.away(a, isAway), reference.away(a, isAway));
            case 4:
            case 5:
            case 6:
                return bringText();
            case 7:
                a = number(0, 3);
                b = number(1, random.nextInt(9) == 0 ? 99 : 3);
                return answers("stock(" + a + ", " + b + ")", program.stock(a, b), reference.stock(a, b));
            case 8:
                a = number(0, Math.max(0, program.count(1) - 1));
                return answers("again(" + a + ")", program.again(a), reference.again(a));
            case 9:
            case 10:
                a = number(1, random.nextInt(30) == 0 ? 200 : random.nextInt(3) == 0 ? 9 : 2);
                return answers("pass(" + a + ")", program.pass(a), reference.pass(a));
            case 11:
                return answers("giveOut()", program.giveOut(), reference.giveOut());
            default:
                if (random.nextInt(6) > 0) {
                    return answers("pass(1)", program.pass(1), reference.pass(1));
                }
                return answers("clear()", program.clear(), reference.clear());
        }
    }

    private String someText() {
        StringBuilder text = new StringBuilder();
        int things = 1 + random.nextInt(4);
        for (int thing = 0; thing < things; thing++) {
            text.append(thing == 0 ? "" : ";");
            int steps = 1 + random.nextInt(4);
            for (int step = 0; step < steps; step++) {
                text.append(step == 0 ? "" : ",");
                text.append(random.nextInt(few == 0 ? 2 : 5)).append(1 + random.nextInt(few == 1 ? 9 : 3));
                text.append(random.nextInt(3) == 0 ? "p" + random.nextInt(4) : "");
            }
            text.append(random.nextInt(3) == 0 ? "!" + random.nextInt(4) : "");
        }
        if (random.nextInt(12) == 0) {
            text.setCharAt(random.nextInt(text.length()), "0123456789p!,;~/:".charAt(random.nextInt(17)));
        }
        return text.substring(0, random.nextInt(15) == 0 ? random.nextInt(text.length()) + 1 : Math.min(60, text.length()));
    }

    private long[] bringText() {
        if (random.nextInt(4) > 0) {
            program.wipe();
            reference.wipe();
        }
        String text = someText();
        for (int i = 0; i < text.length(); i += 8) {
            long characters = Checks.number(text.substring(i, Math.min(i + 8, text.length())));
            Checks.due("put " + text, program.put(characters), reference.put(characters));
        }
        Checks.due("fault of " + text, program.fault(), reference.fault());
        return answers("bring()", program.bring(), reference.bring());
    }

    private long[] other() {
        int a = number(0, 1);
        switch (random.nextInt(7)) {
            case 0:
            case 1:
                return answers("undo()", program.undo(), reference.undo());
            case 2:
                return answers("save(" + a + ")", program.save(a), reference.save(a));
            case 3:
                return answers("restore(" + a + ")", program.restore(a), reference.restore(a));
            case 4:
                return answers("wipe()", program.wipe(), reference.wipe());
            case 5:
                return answers("fault()", program.fault(), reference.fault());
            default:
                long characters = random.nextLong() >>> 8 * random.nextInt(8);
                characters = random.nextBoolean() ? characters : Checks.number("01;2!p,~".substring(random.nextInt(8)));
                return answers("put(" + characters + ")", program.put(characters), reference.put(characters));
        }
    }

    private long[] look() {
        int a = number(0, Math.max(0, program.count(0) - 1));
        int b = number(0, Math.max(0, program.count(1) - 1));
        int c;
        int d;
        switch (random.nextInt(14)) {
            case 0:
                c = number(0, 5);
                return answers("fixer(" + a + ", " + c + ")", program.fixer(a, c), reference.fixer(a, c));
            case 1:
            case 2:
                c = number(0, 7);
                return answers("thing(" + b + ", " + c + ")", program.thing(b, c), reference.thing(b, c));
            case 3:
                c = number(0, 3);
                d = number(0, 2);
                return answers("step(" + b + ", " + c + ", " + d + ")", program.step(b, c, d), reference.step(b, c, d));
            case 4:
            case 5:
                c = number(0, 16);
                return answers("count(" + c + ")", program.count(c), reference.count(c));
            case 6:
            case 7:
                return answers("plan(" + a + ")", program.plan(a), reference.plan(a));
            case 8:
                return answers("planned()", program.planned(), reference.planned());
            case 9:
                return answers("ifAway(" + a + ")", program.ifAway(a), reference.ifAway(a));
            case 10:
                c = number(0, 1);
                return answers("bestSkill(" + c + ")", program.bestSkill(c), reference.bestSkill(c));
            case 11:
                c = number(1, 200);
                d = number(0, 2);
                return answers("ifPassed(" + c + ", " + d + ")", program.ifPassed(c, d), reference.ifPassed(c, d));
            case 12:
                return answers("untilOver()", program.untilOver(), reference.untilOver());
            default:
                c = number(0, 1);
                return answers("bestPart(" + c + ")", program.bestPart(c), reference.bestPart(c));
        }
    }
}
