/** Mornings on which things are mended. The document's numbered promises say what each method does. */
public final class MendingMornings {
    public static final int NO_SUCH = -1, BAD_VALUE = -2, BAD_TEXT = -3, TOO_MANY = -4, NOT_POSSIBLE = -5, NONE = -6;
    public static final int PATIENCE = 0, TEST = 1;
    public static final int WAITING = 0, BEING_DONE = 1, MENDED = 2, GIVEN_UP = 3;

    private static final int MOST_PATIENCE = 50, MOST_TEST = 9;
    private static final int MOST_FIXERS = 8, MOST_SPEED = 3, ALL_SKILLS = 63, SKILLS = 6, TEST_SKILL = 5;
    private static final int MOST_THINGS = 16, ALL_THINGS = 65535, MOST_STEPS = 4;
    private static final int PARTS = 4, MOST_STOCK = 99, FIRST_STOCK = 2;
    private static final int MOST_SLOTS = 200, LONGEST_MORNING = 500;
    private static final int MOST_UNDOS = 6, PLACES = 2;
    private static final int PAD_LENGTH = 60, MOST_READ = 20, FIRST_SIGN = 33, LAST_SIGN = 126;

    private final Morning now;
    // What would be is tried out on a second morning, so that the first one stays as it is.
    private final Morning trial;
    private final Morning[] saved;
    private final boolean[] isSaved;
    private final History history;
    private final Pad pad;
    private final Planner planner;

    public MendingMornings() {
        now = new Morning();
        trial = new Morning();
        saved = new Morning[PLACES];
        for (int i = 0; i < PLACES; i++) {
            saved[i] = new Morning();
        }
        isSaved = new boolean[PLACES];
        history = new History();
        pad = new Pad();
        planner = new Planner();
    }

    // ---- changes

    public int set(int setting, int value) {
        if (setting == PATIENCE) {
            if (isOutside(value, 1, MOST_PATIENCE)) {
                return BAD_VALUE;
            }
            history.keep(now);
            int before = now.patience;
            now.patience = value;
            return before;
        }
        if (setting != TEST || isOutside(value, 1, MOST_TEST)) {
            return BAD_VALUE;
        }
        history.keep(now);
        int before = now.testWork;
        now.testWork = value;
        return before;
    }

    public int come(int skills, int speed) {
        if (isOutside(skills, 1, ALL_SKILLS) || isOutside(speed, 1, MOST_SPEED)) {
            return BAD_VALUE;
        }
        if (now.fixerCount >= MOST_FIXERS) {
            return TOO_MANY;
        }
        history.keep(now);
        return now.addFixer(skills, speed);
    }

    public int away(int fixer, boolean isAway) {
        if (!now.hasFixer(fixer)) {
            return NO_SUCH;
        }
        Fixer who = now.fixers[fixer];
        if (who.isThere != isAway) {
            return NOT_POSSIBLE;
        }
        history.keep(now);
        who.isThere = !isAway;
        return now.fixersThere();
    }

    public int bring() {
        if (pad.readThings() != NONE) {
            return BAD_TEXT;
        }
        if (now.thingCount + pad.readCount > MOST_THINGS) {
            return TOO_MANY;
        }
        history.keep(now);
        for (int i = 0; i < pad.readCount; i++) {
            now.addThing(pad.read[i]);
        }
        pad.length = 0;
        return now.thingCount;
    }

    public int stock(int part, int many) {
        if (isOutside(part, 0, PARTS - 1)) {
            return NO_SUCH;
        }
        if (isOutside(many, 1, MOST_STOCK)) {
            return BAD_VALUE;
        }
        if (now.parts[part] + many > MOST_STOCK) {
            return TOO_MANY;
        }
        history.keep(now);
        now.parts[part] += many;
        return now.parts[part];
    }

    public int again(int thing) {
        if (!now.hasThing(thing)) {
            return NO_SUCH;
        }
        Thing what = now.things[thing];
        if (what.state != GIVEN_UP) {
            return NOT_POSSIBLE;
        }
        history.keep(now);
        what.becomeWaiting();
        return now.thingsIn(WAITING);
    }

    public int pass(int slots) {
        if (isOutside(slots, 1, MOST_SLOTS)) {
            return BAD_VALUE;
        }
        history.keep(now);
        int before = now.thingsIn(MENDED);
        now.letPass(slots);
        return now.thingsIn(MENDED) - before;
    }

    public int giveOut() {
        history.keep(now);
        planner.makePlan(now);
        int many = 0;
        for (int i = 0; i < now.fixerCount; i++) {
            if (now.takeIfInStock(now.fixers[i], planner.given[i])) {
                many++;
            }
        }
        return many;
    }

    public int clear() {
        history.keep(now);
        int before = now.thingCount;
        now.removeThings();
        return before;
    }

    // ---- what there is; nothing changes

    public int fixer(int fixer, int what) {
        if (!now.hasFixer(fixer)) {
            return NO_SUCH;
        }
        Fixer who = now.fixers[fixer];
        switch (what) {
            case 0: return who.skills;
            case 1: return who.speed;
            case 2: return who.isThere ? 1 : 0;
            case 3: return who.doing;
            case 4: return who.left;
            case 5: return who.stepsDone;
            default: return BAD_VALUE;
        }
    }

    public int thing(int thing, int what) {
        if (!now.hasThing(thing)) {
            return NO_SUCH;
        }
        Thing which = now.things[thing];
        boolean isMended = which.state == MENDED;
        switch (what) {
            case 0: return which.state;
            case 1: return which.stepCount;
            case 2: return isMended ? NONE : which.next;
            case 3: return which.waited;
            case 4: return which.failed;
            case 5: return which.weakness;
            case 6: return now.fixerOf(thing);
            case 7: return isMended ? 0 : now.fixersWith(which.nextSkill());
            default: return BAD_VALUE;
        }
    }

    public int step(int thing, int step, int what) {
        if (!now.hasThing(thing)) {
            return NO_SUCH;
        }
        Thing which = now.things[thing];
        if (!which.hasStep(step)) {
            return NO_SUCH;
        }
        switch (what) {
            case 0: return which.skills[step];
            case 1: return which.works[step];
            case 2: return which.parts[step];
            default: return BAD_VALUE;
        }
    }

    public int count(int what) {
        if (what >= 2 && what <= 5) {
            return now.thingsIn(what - 2);
        }
        if (what >= 9 && what <= 12) {
            return now.parts[what - 9];
        }
        switch (what) {
            case 0: return now.fixerCount;
            case 1: return now.thingCount;
            case 6: return now.freeFixers();
            case 7: return now.slots;
            case 8: return now.testsFailed;
            case 13: return now.patience;
            case 14: return now.testWork;
            case 15: return pad.length;
            case 16: return history.size;
            default: return BAD_VALUE;
        }
    }

    // ---- plans; nothing changes

    public int plan(int fixer) {
        if (!now.hasFixer(fixer)) {
            return NO_SUCH;
        }
        planner.makePlan(now);
        return planner.given[fixer];
    }

    public int planned() {
        planner.lookAt(now);
        return planner.mostServed(0, ALL_THINGS);
    }

    public int ifAway(int fixer) {
        if (!now.hasFixer(fixer)) {
            return NO_SUCH;
        }
        planner.lookAt(now);
        planner.canTake[fixer] = 0;
        return planner.mostServed(0, ALL_THINGS);
    }

    public int bestSkill(int what) {
        if (isOutside(what, 0, 1)) {
            return BAD_VALUE;
        }
        int best = 0;
        int most = -1;
        for (int skill = 0; skill < SKILLS; skill++) {
            planner.lookAt(now);
            planner.addFixer(now.thingsFor(1 << skill));
            int served = planner.mostServed(0, ALL_THINGS);
            if (served > most) {
                best = skill;
                most = served;
            }
        }
        return what == 0 ? best : most;
    }

    // ---- what if; nothing changes

    public int ifPassed(int slots, int what) {
        if (isOutside(slots, 1, MOST_SLOTS) || isOutside(what, 0, 2)) {
            return BAD_VALUE;
        }
        trial.copyFrom(now);
        trial.letPass(slots);
        switch (what) {
            case 0: return trial.thingsIn(MENDED) - now.thingsIn(MENDED);
            case 1: return trial.thingsIn(GIVEN_UP) - now.thingsIn(GIVEN_UP);
            default: return trial.testsFailed - now.testsFailed;
        }
    }

    public int untilOver() {
        trial.copyFrom(now);
        for (int passed = 0; passed <= LONGEST_MORNING; passed++) {
            if (trial.isOver()) {
                return passed;
            }
            trial.letOnePass();
        }
        return NONE;
    }

    public int bestPart(int what) {
        if (isOutside(what, 0, 1)) {
            return BAD_VALUE;
        }
        int best = 0;
        int most = -1;
        for (int part = 0; part < PARTS; part++) {
            trial.copyFrom(now);
            trial.parts[part]++;
            trial.letPass(LONGEST_MORNING);
            int mended = trial.thingsIn(MENDED) - now.thingsIn(MENDED);
            if (mended > most) {
                best = part;
                most = mended;
            }
        }
        return what == 0 ? best : most;
    }

    // ---- texts

    public int put(long characters) {
        int many = Pad.signsIn(characters);
        if (many == 0) {
            return BAD_VALUE;
        }
        if (pad.length + many > PAD_LENGTH) {
            return TOO_MANY;
        }
        pad.append(characters, many);
        return pad.length;
    }

    public int wipe() {
        int before = pad.length;
        pad.length = 0;
        return before;
    }

    public int fault() {
        return pad.readThings();
    }

    // ---- undo, saving

    public int undo() {
        if (history.size == 0) {
            return NOT_POSSIBLE;
        }
        history.takeBack(now);
        return history.size;
    }

    public int save(int place) {
        if (isOutside(place, 0, PLACES - 1)) {
            return BAD_VALUE;
        }
        saved[place].copyFrom(now);
        isSaved[place] = true;
        return now.thingCount;
    }

    public int restore(int place) {
        if (isOutside(place, 0, PLACES - 1)) {
            return BAD_VALUE;
        }
        if (!isSaved[place]) {
            return NOT_POSSIBLE;
        }
        history.keep(now);
        now.copyFrom(saved[place]);
        return now.thingCount;
    }

    private static boolean isOutside(int value, int least, int most) {
        return value < least || value > most;
    }

    /** Somebody who mends; free when doing is NONE. */
    private static final class Fixer {
        int skills;
        int speed;
        boolean isThere;
        int doing;
        int left;
        int stepsDone;

        void start(int hisSkills, int hisSpeed) {
            skills = hisSkills;
            speed = hisSpeed;
            isThere = true;
            stepsDone = 0;
            becomeFree();
        }

        void becomeFree() {
            doing = NONE;
            left = 0;
        }

        boolean canTakeMore() {
            return isThere && doing == NONE;
        }

        void copyFrom(Fixer other) {
            skills = other.skills;
            speed = other.speed;
            isThere = other.isThere;
            doing = other.doing;
            left = other.left;
            stepsDone = other.stepsDone;
        }
    }

    /** Something to be mended; next is the step to be done or being done, stepCount stands for the test. */
    private static final class Thing {
        final int[] skills = new int[MOST_STEPS];
        final int[] works = new int[MOST_STEPS];
        final int[] parts = new int[MOST_STEPS];
        int stepCount;
        int next;
        int state;
        int waited;
        int failed;
        int weakness;

        void start() {
            stepCount = 0;
            next = 0;
            failed = 0;
            weakness = 0;
            becomeWaiting();
        }

        void becomeWaiting() {
            state = WAITING;
            waited = 0;
        }

        /** Ends its waiting, as what does not wait has waited for 0 slots. */
        void leaveQueue(int newState) {
            state = newState;
            waited = 0;
        }

        boolean hasStep(int step) {
            return step >= 0 && step < stepCount && step < MOST_STEPS;
        }

        void addStep(int skill) {
            if (stepCount < MOST_STEPS) {
                skills[stepCount] = skill;
                works[stepCount] = 1;
                parts[stepCount] = NONE;
                stepCount++;
            }
        }

        void setLastWork(int work) {
            if (hasStep(stepCount - 1)) {
                works[stepCount - 1] = work;
            }
        }

        void setLastPart(int part) {
            if (hasStep(stepCount - 1)) {
                parts[stepCount - 1] = part;
            }
        }

        int nextSkill() {
            return hasStep(next) ? skills[next] : TEST_SKILL;
        }

        int nextWork(int testWork) {
            return hasStep(next) ? works[next] : testWork;
        }

        int nextPart() {
            return hasStep(next) ? parts[next] : NONE;
        }

        /** Ends the step that is being done; tells whether it was a test that failed. */
        boolean endStep() {
            if (hasStep(next)) {
                next++;
                becomeWaiting();
                return false;
            }
            if (failed < weakness) {
                failed++;
                next = stepCount - 1;
                becomeWaiting();
                return true;
            }
            leaveQueue(MENDED);
            return false;
        }

        void copyFrom(Thing other) {
            for (int i = 0; i < MOST_STEPS; i++) {
                skills[i] = other.skills[i];
                works[i] = other.works[i];
                parts[i] = other.parts[i];
            }
            stepCount = other.stepCount;
            next = other.next;
            state = other.state;
            waited = other.waited;
            failed = other.failed;
            weakness = other.weakness;
        }
    }

    /** All that a change can change, but for the pad: undo and save keep whole mornings. */
    private static final class Morning {
        final Fixer[] fixers = new Fixer[MOST_FIXERS];
        final Thing[] things = new Thing[MOST_THINGS];
        final int[] parts = new int[PARTS];
        int fixerCount;
        int thingCount;
        int patience = 6;
        int testWork = 2;
        int slots;
        int testsFailed;

        Morning() {
            for (int i = 0; i < MOST_FIXERS; i++) {
                fixers[i] = new Fixer();
            }
            for (int i = 0; i < MOST_THINGS; i++) {
                things[i] = new Thing();
            }
            for (int i = 0; i < PARTS; i++) {
                parts[i] = FIRST_STOCK;
            }
        }

        void copyFrom(Morning other) {
            fixerCount = other.fixerCount;
            for (int i = 0; i < fixerCount; i++) {
                fixers[i].copyFrom(other.fixers[i]);
            }
            thingCount = other.thingCount;
            for (int i = 0; i < thingCount; i++) {
                things[i].copyFrom(other.things[i]);
            }
            for (int i = 0; i < PARTS; i++) {
                parts[i] = other.parts[i];
            }
            patience = other.patience;
            testWork = other.testWork;
            slots = other.slots;
            testsFailed = other.testsFailed;
        }

        boolean hasFixer(int fixer) {
            return fixer >= 0 && fixer < fixerCount && fixer < MOST_FIXERS;
        }

        boolean hasThing(int thing) {
            return thing >= 0 && thing < thingCount && thing < MOST_THINGS;
        }

        int addFixer(int skills, int speed) {
            if (fixerCount >= MOST_FIXERS) {
                return TOO_MANY;
            }
            fixers[fixerCount].start(skills, speed);
            fixerCount++;
            return fixerCount - 1;
        }

        void addThing(Thing thing) {
            if (thingCount < MOST_THINGS) {
                things[thingCount].copyFrom(thing);
                thingCount++;
            }
        }

        void removeThings() {
            thingCount = 0;
            slots = 0;
            for (int i = 0; i < fixerCount; i++) {
                fixers[i].becomeFree();
            }
        }

        int fixersThere() {
            int set = 0;
            for (int i = 0; i < fixerCount; i++) {
                if (fixers[i].isThere) {
                    set |= 1 << i;
                }
            }
            return set;
        }

        int fixersWith(int skill) {
            int set = 0;
            for (int i = 0; i < fixerCount; i++) {
                if ((fixers[i].skills >> skill & 1) == 1) {
                    set |= 1 << i;
                }
            }
            return set;
        }

        int freeFixers() {
            int many = 0;
            for (int i = 0; i < fixerCount; i++) {
                if (fixers[i].canTakeMore()) {
                    many++;
                }
            }
            return many;
        }

        int fixerOf(int thing) {
            for (int i = 0; i < fixerCount; i++) {
                if (fixers[i].doing == thing) {
                    return i;
                }
            }
            return NONE;
        }

        int thingsIn(int state) {
            int many = 0;
            for (int i = 0; i < thingCount; i++) {
                if (things[i].state == state) {
                    many++;
                }
            }
            return many;
        }

        boolean isOver() {
            return thingsIn(WAITING) + thingsIn(BEING_DONE) == 0;
        }

        /** The things that somebody with these skills could take, as a set. */
        int thingsFor(int skills) {
            int set = 0;
            for (int i = 0; i < thingCount; i++) {
                if (isFor(things[i], skills)) {
                    set |= 1 << i;
                }
            }
            return set;
        }

        boolean isFor(Thing thing, int skills) {
            return thing.state == WAITING && (skills >> thing.nextSkill() & 1) == 1 && isInStock(thing.nextPart());
        }

        boolean isInStock(int part) {
            return part < 0 || part >= PARTS || parts[part] > 0;
        }

        boolean takeIfInStock(Fixer fixer, int thing) {
            if (!hasThing(thing) || !isInStock(things[thing].nextPart())) {
                return false;
            }
            int part = things[thing].nextPart();
            if (part >= 0 && part < PARTS) {
                parts[part]--;
            }
            fixer.doing = thing;
            fixer.left = things[thing].nextWork(testWork);
            things[thing].leaveQueue(BEING_DONE);
            return true;
        }

        void letPass(int many) {
            int passed = 0;
            while (passed < many && !isOver()) {
                letOnePass();
                passed++;
            }
            // When all is over, nothing but the number of slots goes on.
            slots += many - passed;
        }

        void letOnePass() {
            for (int i = 0; i < fixerCount; i++) {
                work(fixers[i]);
            }
            for (int i = 0; i < fixerCount; i++) {
                if (fixers[i].canTakeMore()) {
                    takeIfInStock(fixers[i], longestWaiting(fixers[i].skills));
                }
            }
            for (int i = 0; i < thingCount; i++) {
                waitOn(things[i]);
            }
            slots++;
        }

        void work(Fixer fixer) {
            if (!hasThing(fixer.doing)) {
                return;
            }
            fixer.left -= fixer.speed;
            if (fixer.left > 0) {
                return;
            }
            if (things[fixer.doing].endStep()) {
                testsFailed++;
            }
            fixer.stepsDone++;
            fixer.becomeFree();
        }

        int longestWaiting(int skills) {
            int longest = NONE;
            int most = -1;
            for (int i = 0; i < thingCount; i++) {
                if (isFor(things[i], skills) && things[i].waited > most) {
                    longest = i;
                    most = things[i].waited;
                }
            }
            return longest;
        }

        void waitOn(Thing thing) {
            if (thing.state != WAITING) {
                return;
            }
            thing.waited++;
            if (thing.waited > patience) {
                thing.leaveQueue(GIVEN_UP);
            }
        }
    }

    /** The mornings before the latest changes, the oldest one first. */
    private static final class History {
        final Morning[] states = new Morning[MOST_UNDOS];
        int size;

        History() {
            for (int i = 0; i < MOST_UNDOS; i++) {
                states[i] = new Morning();
            }
        }

        void keep(Morning morning) {
            if (size >= MOST_UNDOS) {
                dropOldest();
            }
            states[size].copyFrom(morning);
            size++;
        }

        /** The dropped one goes behind the others, to be written over. */
        void dropOldest() {
            Morning oldest = states[0];
            for (int i = 1; i < MOST_UNDOS; i++) {
                states[i - 1] = states[i];
            }
            states[MOST_UNDOS - 1] = oldest;
            size = MOST_UNDOS - 1;
        }

        void takeBack(Morning morning) {
            if (size > 0) {
                size--;
                morning.copyFrom(states[size]);
            }
        }
    }

    /** Gives each fixer at most one thing, so that as many as possible get one. */
    private static final class Planner {
        final int[] canTake = new int[MOST_FIXERS + 1];
        final int[] given = new int[MOST_FIXERS];
        final int[] anyCanTake = new int[1 << MOST_FIXERS + 1];
        int fixerCount;

        void lookAt(Morning morning) {
            fixerCount = morning.fixerCount;
            for (int i = 0; i < fixerCount; i++) {
                Fixer fixer = morning.fixers[i];
                canTake[i] = fixer.canTakeMore() ? morning.thingsFor(fixer.skills) : 0;
            }
        }

        void addFixer(int things) {
            if (fixerCount <= MOST_FIXERS) {
                canTake[fixerCount] = things;
                fixerCount++;
            }
        }

        /**
         * How many fixers from the first one on can get one of these things each. By the theorem of Hall and Ore
         * that is the least sum, over all groups of them, of the things that the group can take together and of
         * the fixers outside the group; so no search is needed.
         */
        int mostServed(int first, int things) {
            int many = fixerCount - first;
            int most = many;
            int groups = 1;
            anyCanTake[0] = 0;
            for (int i = first; i < fixerCount; i++) {
                for (int group = 0; group < groups; group++) {
                    int larger = groups + group;
                    anyCanTake[larger] = anyCanTake[group] | canTake[i] & things;
                    int outside = many - Integer.bitCount(larger);
                    most = Math.min(most, Integer.bitCount(anyCanTake[larger]) + outside);
                }
                groups += groups;
            }
            return most;
        }

        void makePlan(Morning morning) {
            lookAt(morning);
            int things = ALL_THINGS;
            int served = mostServed(0, things);
            for (int i = 0; i < fixerCount && i < MOST_FIXERS; i++) {
                int lowest = lowestFor(i, things, served);
                given[i] = lowest;
                if (lowest != NONE) {
                    things &= ~(1 << lowest);
                    served--;
                }
            }
        }

        /** The lowest thing for a fixer that still leaves things for as many as can be served in all. */
        int lowestFor(int fixer, int things, int served) {
            for (int i = 0; i < MOST_THINGS; i++) {
                int thing = 1 << i;
                boolean isFree = (canTake[fixer] & things & thing) != 0;
                if (isFree && mostServed(fixer + 1, things & ~thing) + 1 == served) {
                    return i;
                }
            }
            return NONE;
        }
    }

    /** The text on the pad, and the things that were read from it last. */
    private static final class Pad {
        // What is to come next, or what the character before was the end of.
        static final int WRONG = -1, TO_THING = 0, TO_STEP = 1, TO_WORK = 2, TO_PART = 3, TO_WEAKNESS = 4;
        static final int AFTER_WORK = 5, AFTER_PART = 6, AFTER_WEAKNESS = 7;

        final int[] signs = new int[PAD_LENGTH];
        final Thing[] read = new Thing[MOST_READ];
        int length;
        int readCount;
        Thing latest;

        Pad() {
            for (int i = 0; i < MOST_READ; i++) {
                read[i] = new Thing();
            }
            latest = read[0];
        }

        /** How many characters a number stands for; 0 if it does not stand for any. */
        static int signsIn(long characters) {
            long rest = characters;
            int many = 0;
            while (many < 8 && (rest & 255) != 0) {
                int sign = (int) (rest & 255);
                if (isOutside(sign, FIRST_SIGN, LAST_SIGN)) {
                    return 0;
                }
                rest >>>= 8;
                many++;
            }
            return rest == 0 ? many : 0;
        }

        void append(long characters, int many) {
            for (int i = many - 1; i >= 0 && length < PAD_LENGTH; i--) {
                signs[length] = (int) (characters >>> 8 * i & 255);
                length++;
            }
        }

        /** Reads the things, and returns the fault, or NONE. */
        int readThings() {
            readCount = 0;
            int place = TO_THING;
            for (int i = 0; i < length; i++) {
                place = placeBehind(place, signs[i]);
                if (place == WRONG) {
                    return i;
                }
            }
            return place >= AFTER_WORK ? NONE : length;
        }

        int placeBehind(int place, int sign) {
            int digit = sign - '0';
            switch (place) {
                case TO_THING: return isOutside(digit, 0, TEST_SKILL - 1) ? WRONG : readFirstSkill(digit);
                case TO_STEP: return isOutside(digit, 0, TEST_SKILL - 1) ? WRONG : readSkill(digit);
                case TO_WORK: return isOutside(digit, 1, 9) ? WRONG : readWork(digit);
                case TO_PART: return isOutside(digit, 0, PARTS - 1) ? WRONG : readPart(digit);
                case TO_WEAKNESS: return isOutside(digit, 0, 3) ? WRONG : readWeakness(digit);
                default: return placeBehindMark(place, sign);
            }
        }

        int readFirstSkill(int skill) {
            if (readCount >= MOST_READ) {
                return WRONG;
            }
            latest = read[readCount];
            latest.start();
            readCount++;
            return readSkill(skill);
        }

        int readSkill(int skill) {
            latest.addStep(skill);
            return TO_WORK;
        }

        int readWork(int work) {
            latest.setLastWork(work);
            return AFTER_WORK;
        }

        int readPart(int part) {
            latest.setLastPart(part);
            return AFTER_PART;
        }

        int readWeakness(int weakness) {
            latest.weakness = weakness;
            return AFTER_WEAKNESS;
        }

        int placeBehindMark(int place, int sign) {
            if (sign == ';') {
                return TO_THING;
            }
            if (place == AFTER_WEAKNESS) {
                return WRONG;
            }
            if (sign == '!') {
                return TO_WEAKNESS;
            }
            if (sign == ',' && latest.stepCount < MOST_STEPS) {
                return TO_STEP;
            }
            return sign == 'p' && place == AFTER_WORK ? TO_PART : WRONG;
        }
    }
}
