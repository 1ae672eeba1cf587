import java.util.ArrayList;
import java.util.HashMap;
import java.util.List;
import java.util.Map;

/**
 * The document once more, written for plainness alone and in another way than the program: lists that are copied whole,
 * texts taken apart by the library, plans by looking at every set of things. The program is compared with it.
 */
final class Reference {
    private static final int NO_SUCH = -1, BAD_VALUE = -2, BAD_TEXT = -3, TOO_MANY = -4, NOT_POSSIBLE = -5, NONE = -6;

    private static final class Man {
        int skills;
        int speed;
        boolean away;
        Item job;
        int left;
        int done;
    }

    private static final class Item {
        List<int[]> steps = new ArrayList<>();
        int weakness;
        int state;
        int next;
        int waited;
        int failed;

        int[] nextStep(int testWork) {
            return next < steps.size() ? steps.get(next) : new int[] {5, testWork, NONE};
        }
    }

    private static final class Room {
        List<Man> men = new ArrayList<>();
        List<Item> items = new ArrayList<>();
        int[] stock = {2, 2, 2, 2};
        int patience = 6;
        int test = 2;
        int slots;
        int failed;

        Room copy() {
            Room other = new Room();
            Map<Item, Item> copies = new HashMap<>();
            for (Item item : items) {
                Item twin = new Item();
                twin.steps = item.steps;
                twin.weakness = item.weakness;
                twin.state = item.state;
                twin.next = item.next;
                twin.waited = item.waited;
                twin.failed = item.failed;
                copies.put(item, twin);
                other.items.add(twin);
            }
            for (Man man : men) {
                Man twin = new Man();
                twin.skills = man.skills;
                twin.speed = man.speed;
                twin.away = man.away;
                twin.job = man.job == null ? null : copies.get(man.job);
                twin.left = man.left;
                twin.done = man.done;
                other.men.add(twin);
            }
            other.stock = stock.clone();
            other.patience = patience;
            other.test = test;
            other.slots = slots;
            other.failed = failed;
            return other;
        }

        int in(int state) {
            return (int) items.stream().filter(item -> item.state == state).count();
        }

        boolean can(int skills, Item item) {
            int[] step = item.nextStep(test);
            return item.state == 0 && (skills & 1 << step[0]) != 0 && (step[2] == NONE || stock[step[2]] > 0);
        }

        void take(Man man, Item item) {
            int[] step = item.nextStep(test);
            if (step[2] != NONE) {
                stock[step[2]]--;
            }
            man.job = item;
            man.left = step[1];
            item.state = 1;
            item.waited = 0;
        }

        void slot() {
            for (Man man : men) {
                if (man.job != null && (man.left -= man.speed) <= 0) {
                    Item item = man.job;
                    man.job = null;
                    man.left = 0;
                    man.done++;
                    item.state = 0;
                    if (item.next < item.steps.size()) {
                        item.next++;
                    } else if (item.failed == item.weakness) {
                        item.state = 2;
                    } else {
                        item.failed++;
                        failed++;
                        item.next--;
                    }
                }
            }
            for (Man man : men) {
                if (!man.away && man.job == null) {
                    Item best = null;
                    for (Item item : items) {
                        if (can(man.skills, item) && (best == null || item.waited > best.waited)) {
                            best = item;
                        }
                    }
                    if (best != null) {
                        take(man, best);
                    }
                }
            }
            for (Item item : items) {
                if (item.state == 0 && ++item.waited > patience) {
                    item.state = 3;
                    item.waited = 0;
                }
            }
            slots++;
        }

        List<List<Integer>> choices() {
            List<List<Integer>> choices = new ArrayList<>();
            for (Man man : men) {
                List<Integer> row = new ArrayList<>();
                for (int i = 0; i < items.size(); i++) {
                    if (!man.away && man.job == null && can(man.skills, items.get(i))) {
                        row.add(i);
                    }
                }
                choices.add(row);
            }
            return choices;
        }
    }

    /** How many of the men from the first one on get a thing at most, when some things are used. */
    private static int most(List<List<Integer>> choices, int first, int used, Map<Integer, Integer> known) {
        if (first == choices.size()) {
            return 0;
        }
        int key = first << 16 | used;
        Integer before = known.get(key);
        if (before != null) {
            return before;
        }
        int best = most(choices, first + 1, used, known);
        for (int thing : choices.get(first)) {
            if ((used & 1 << thing) == 0) {
                best = Math.max(best, 1 + most(choices, first + 1, used | 1 << thing, known));
            }
        }
        known.put(key, best);
        return best;
    }

    private static int most(List<List<Integer>> choices) {
        return most(choices, 0, 0, new HashMap<>());
    }

    private static int[] plan(List<List<Integer>> choices) {
        Map<Integer, Integer> known = new HashMap<>();
        int[] plan = new int[choices.size()];
        int used = 0;
        for (int man = 0; man < plan.length; man++) {
            int due = most(choices, man, used, known);
            plan[man] = NONE;
            for (int thing : choices.get(man)) {
                if ((used & 1 << thing) == 0 && 1 + most(choices, man + 1, used | 1 << thing, known) == due) {
                    plan[man] = thing;
                    used |= 1 << thing;
                    break;
                }
            }
        }
        return plan;
    }

    private Room room = new Room();
    private final List<Room> past = new ArrayList<>();
    private final Room[] kept = new Room[2];
    private String pad = "";

    private void note() {
        past.add(room.copy());
        if (past.size() > 6) {
            past.remove(0);
        }
    }

    private static boolean in(int value, int least, int most) {
        return least <= value && value <= most;
    }

    int set(int setting, int value) {
        if (!in(setting, 0, 1) || !in(value, 1, setting == 0 ? 50 : 9)) {
            return BAD_VALUE;
        }
        note();
        int before = setting == 0 ? room.patience : room.test;
        if (setting == 0) {
            room.patience = value;
        } else {
            room.test = value;
        }
        return before;
    }

    int come(int skills, int speed) {
        if (!in(skills, 1, 63) || !in(speed, 1, 3)) {
            return BAD_VALUE;
        }
        if (room.men.size() == 8) {
            return TOO_MANY;
        }
        note();
        Man man = new Man();
        man.skills = skills;
        man.speed = speed;
        room.men.add(man);
        return room.men.size() - 1;
    }

    int away(int fixer, boolean isAway) {
        if (!in(fixer, 0, room.men.size() - 1)) {
            return NO_SUCH;
        }
        if (room.men.get(fixer).away == isAway) {
            return NOT_POSSIBLE;
        }
        note();
        room.men.get(fixer).away = isAway;
        int set = 0;
        for (int i = 0; i < room.men.size(); i++) {
            set += room.men.get(i).away ? 0 : 1 << i;
        }
        return set;
    }

    int bring() {
        if (fault() != NONE) {
            return BAD_TEXT;
        }
        String[] texts = pad.split(";");
        if (texts.length + room.items.size() > 16) {
            return TOO_MANY;
        }
        note();
        for (String text : texts) {
            Item item = new Item();
            String[] halves = text.split("!");
            item.weakness = halves.length == 1 ? 0 : Integer.parseInt(halves[1]);
            for (String step : halves[0].split(",")) {
                int part = step.length() == 2 ? NONE : step.charAt(3) - '0';
                item.steps.add(new int[] {step.charAt(0) - '0', step.charAt(1) - '0', part});
            }
            room.items.add(item);
        }
        pad = "";
        return room.items.size();
    }

    int stock(int part, int many) {
        if (!in(part, 0, 3)) {
            return NO_SUCH;
        }
        if (!in(many, 1, 99)) {
            return BAD_VALUE;
        }
        if (room.stock[part] + many > 99) {
            return TOO_MANY;
        }
        note();
        return room.stock[part] += many;
    }

    int again(int thing) {
        if (!in(thing, 0, room.items.size() - 1)) {
            return NO_SUCH;
        }
        if (room.items.get(thing).state != 3) {
            return NOT_POSSIBLE;
        }
        note();
        room.items.get(thing).state = 0;
        return room.in(0);
    }

    int pass(int slots) {
        if (!in(slots, 1, 200)) {
            return BAD_VALUE;
        }
        note();
        int before = room.in(2);
        for (int i = 0; i < slots; i++) {
            room.slot();
        }
        return room.in(2) - before;
    }

    int giveOut() {
        note();
        int[] plan = plan(room.choices());
        int many = 0;
        for (int i = 0; i < plan.length; i++) {
            if (plan[i] != NONE && room.can(63, room.items.get(plan[i]))) {
                room.take(room.men.get(i), room.items.get(plan[i]));
                many++;
            }
        }
        return many;
    }

    int clear() {
        note();
        int before = room.items.size();
        room.items.clear();
        for (Man man : room.men) {
            man.job = null;
            man.left = 0;
        }
        room.slots = 0;
        return before;
    }

    int fixer(int fixer, int what) {
        if (!in(fixer, 0, room.men.size() - 1)) {
            return NO_SUCH;
        }
        if (!in(what, 0, 5)) {
            return BAD_VALUE;
        }
        Man man = room.men.get(fixer);
        int job = man.job == null ? NONE : room.items.indexOf(man.job);
        return new int[] {man.skills, man.speed, man.away ? 0 : 1, job, man.left, man.done}[what];
    }

    int thing(int thing, int what) {
        if (!in(thing, 0, room.items.size() - 1)) {
            return NO_SUCH;
        }
        if (!in(what, 0, 7)) {
            return BAD_VALUE;
        }
        Item item = room.items.get(thing);
        int who = NONE;
        int able = 0;
        for (int i = 0; i < room.men.size(); i++) {
            who = room.men.get(i).job == item ? i : who;
            boolean isAble = (room.men.get(i).skills & 1 << item.nextStep(0)[0]) != 0;
            able += isAble && item.state != 2 ? 1 << i : 0;
        }
        int next = item.state == 2 ? NONE : item.next;
        return new int[] {item.state, item.steps.size(), next, item.waited, item.failed, item.weakness, who, able}[what];
    }

    int step(int thing, int step, int what) {
        if (!in(thing, 0, room.items.size() - 1) || !in(step, 0, room.items.get(thing).steps.size() - 1)) {
            return NO_SUCH;
        }
        return in(what, 0, 2) ? room.items.get(thing).steps.get(step)[what] : BAD_VALUE;
    }

    int count(int what) {
        if (!in(what, 0, 16)) {
            return BAD_VALUE;
        }
        int free = (int) room.men.stream().filter(man -> !man.away && man.job == null).count();
        return new int[] {room.men.size(), room.items.size(), room.in(0), room.in(1), room.in(2), room.in(3), free, room.slots,
            room.failed, room.stock[0], room.stock[1], room.stock[2], room.stock[3], room.patience, room.test, pad.length(),
            past.size()}[what];
    }

    int plan(int fixer) {
        return in(fixer, 0, room.men.size() - 1) ? plan(room.choices())[fixer] : NO_SUCH;
    }

    int planned() {
        return most(room.choices());
    }

    int ifAway(int fixer) {
        if (!in(fixer, 0, room.men.size() - 1)) {
            return NO_SUCH;
        }
        Room other = room.copy();
        other.men.get(fixer).away = true;
        return most(other.choices());
    }

    int bestSkill(int what) {
        if (!in(what, 0, 1)) {
            return BAD_VALUE;
        }
        int[] best = {-1, -1};
        for (int skill = 0; skill < 6; skill++) {
            Room other = room.copy();
            Man more = new Man();
            more.skills = 1 << skill;
            other.men.add(more);
            int many = most(other.choices());
            if (many > best[1]) {
                best = new int[] {skill, many};
            }
        }
        return best[what];
    }

    int ifPassed(int slots, int what) {
        if (!in(slots, 1, 200) || !in(what, 0, 2)) {
            return BAD_VALUE;
        }
        Room other = room.copy();
        for (int i = 0; i < slots; i++) {
            other.slot();
        }
        return new int[] {other.in(2) - room.in(2), other.in(3) - room.in(3), other.failed - room.failed}[what];
    }

    int untilOver() {
        Room other = room.copy();
        for (int i = 0; i < 500 && other.in(0) + other.in(1) > 0; i++) {
            other.slot();
        }
        return other.in(0) + other.in(1) > 0 ? NONE : other.slots - room.slots;
    }

    int bestPart(int what) {
        if (!in(what, 0, 1)) {
            return BAD_VALUE;
        }
        int[] best = {-1, -1};
        for (int part = 0; part < 4; part++) {
            Room other = room.copy();
            other.stock[part]++;
            for (int i = 0; i < 500; i++) {
                other.slot();
            }
            if (other.in(2) - room.in(2) > best[1]) {
                best = new int[] {part, other.in(2) - room.in(2)};
            }
        }
        return best[what];
    }

    int put(long characters) {
        StringBuilder text = new StringBuilder();
        boolean isEnded = false;
        for (int i = 0; i < 8; i++) {
            int code = (int) (characters >> 8 * i & 255);
            isEnded |= code == 0;
            if (isEnded ? code != 0 : code < 33 || code > 126) {
                return BAD_VALUE;
            }
            if (!isEnded) {
                text.insert(0, (char) code);
            }
        }
        if (text.length() == 0) {
            return BAD_VALUE;
        }
        if (pad.length() + text.length() > 60) {
            return TOO_MANY;
        }
        pad += text;
        return pad.length();
    }

    int wipe() {
        int before = pad.length();
        pad = "";
        return before;
    }

    int fault() {
        return TextsTest.faultOf(pad);
    }

    int undo() {
        if (past.isEmpty()) {
            return NOT_POSSIBLE;
        }
        room = past.remove(past.size() - 1);
        return past.size();
    }

    int save(int place) {
        if (!in(place, 0, 1)) {
            return BAD_VALUE;
        }
        kept[place] = room.copy();
        return room.items.size();
    }

    int restore(int place) {
        if (!in(place, 0, 1)) {
            return BAD_VALUE;
        }
        if (kept[place] == null) {
            return NOT_POSSIBLE;
        }
        note();
        room = kept[place].copy();
        return room.items.size();
    }
}
