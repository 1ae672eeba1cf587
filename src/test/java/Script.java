import java.lang.reflect.InvocationTargetException;
import java.lang.reflect.Method;
import java.lang.reflect.Modifier;
import java.util.ArrayList;
import java.util.HashMap;
import java.util.List;
import java.util.Map;

/**
 * Runs of calls on a new object, written as text: calls stand on lines of their own or behind "|", each with what is due.
 *
 * <pre>
 * come 3 1 = 0             a call, its arguments and its answer; an answer may be a constant's name
 * pass 2                   without an answer: any that is no error
 * 8x come 1 1              eight times
 * text 01;02p1 = 6         as many calls of put as the text needs; the answer of the last one
 * fixer 0 * = 1 1 1 -6 0 0 a call for each "what" from 0 on that has an answer there
 * </pre>
 *
 * Every call is made to the reference, too. Whenever a call is refused, the run is told once with it and once without it,
 * and what can be found out afterwards, also by undo and restore, has to be the same.
 */
final class Script {
    private static final int LAST_ERROR = -1, FIRST_ERROR = -5, MOST_CALLS = 512;
    // To look at everything takes up to some 400 calls, and an object has to answer 512.
    private static final int MOST_BEFORE_A_LOOK = 100;
    private static final Map<String, Long> NAMES = Map.ofEntries(Map.entry("NO_SUCH", -1L), Map.entry("BAD_VALUE", -2L),
        Map.entry("BAD_TEXT", -3L), Map.entry("TOO_MANY", -4L), Map.entry("NOT_POSSIBLE", -5L), Map.entry("NONE", -6L),
        Map.entry("WAITING", 0L), Map.entry("BEING_DONE", 1L), Map.entry("MENDED", 2L), Map.entry("GIVEN_UP", 3L),
        Map.entry("true", 1L), Map.entry("false", 0L), Map.entry("LEAST", (long) Integer.MIN_VALUE),
        Map.entry("MOST", (long) Integer.MAX_VALUE));
    private static final Map<String, Method> METHODS = new HashMap<>();
    private static final Map<String, List<String>> LOOKS = new HashMap<>();

    /** One call; due is null if any answer that is no error will do. */
    private record Call(String name, List<Long> arguments, Long due) {
        long make(Object object) {
            Method method = METHODS.computeIfAbsent(object.getClass().getName() + "." + name + "/" + arguments.size(),
                key -> method(object.getClass()));
            try {
                return ((Number) method.invoke(object, fitted(method.getParameterTypes()))).longValue();
            } catch (IllegalAccessException | InvocationTargetException thrown) {
                throw new IllegalStateException(this + " threw", thrown);
            }
        }

        private Method method(Class<?> type) {
            for (Method method : type.getDeclaredMethods()) {
                boolean isFit = method.getName().equals(name) && method.getParameterCount() == arguments.size();
                if (isFit && !Modifier.isStatic(method.getModifiers())) {
                    return method;
                }
            }
            throw new IllegalStateException("there is no call " + this);
        }

        private Object[] fitted(Class<?>[] types) {
            Object[] fitted = new Object[types.length];
            for (int i = 0; i < types.length; i++) {
                long argument = arguments.get(i);
                fitted[i] = types[i] == boolean.class ? (Object) (argument != 0)
                    : types[i] == int.class ? (Object) Math.toIntExact(argument) : (Object) argument;
            }
            return fitted;
        }

        @Override
        public String toString() {
            return name + arguments;
        }
    }

    private Script() {
    }

    static void run(String title, String script) {
        List<Call> calls = read(script);
        MendingMornings program = new MendingMornings();
        Reference reference = new Reference();
        Checks.due(title + ": calls", Math.min(calls.size(), MOST_CALLS), calls.size());
        for (int i = 0; i < calls.size(); i++) {
            Call call = calls.get(i);
            long got = call.make(program);
            boolean isRefused = isError(got);
            if (call.due != null) {
                Checks.due(title + ": " + call, got, call.due);
            } else {
                Checks.due(title + ": " + call + " is refused with " + got, isRefused ? 1 : 0, 0);
            }
            Checks.due(title + ": the reference's " + call, call.make(reference), got);
            if (isRefused && i <= MOST_BEFORE_A_LOOK) {
                changesNothing(title, calls.subList(0, i), call);
            }
        }
    }

    /** Makes the calls and then this one, which is to change nothing at all. */
    static void changesNothing(String title, String script, String call) {
        List<Call> calls = read(script);
        for (Call one : read(call)) {
            changesNothing(title, calls, one);
        }
    }

    private static void changesNothing(String title, List<Call> before, Call call) {
        List<Call> with = new ArrayList<>(before);
        with.add(call);
        List<String> due = LOOKS.computeIfAbsent(before.toString(), calls -> looks(before));
        List<String> got = looks(with);
        for (int i = 0; i < due.size(); i++) {
            Checks.due(title + ": " + call + " changes something, see " + got.get(i), got.get(i).equals(due.get(i)) ? 0 : 1, 0);
        }
    }

    private static boolean isError(long answer) {
        return answer >= FIRST_ERROR && answer <= LAST_ERROR;
    }

    /** All that can be found out behind some calls: now, behind each undo, in each place, and on the pad. */
    private static List<String> looks(List<Call> calls) {
        List<String> looks = new ArrayList<>();
        for (int undos = 0; undos <= 7; undos++) {
            MendingMornings morning = made(calls);
            looks.add(undos + " times undone: " + answers(morning, "undo", undos) + seen(morning));
        }
        for (int place = 0; place < 2; place++) {
            MendingMornings morning = made(calls);
            looks.add("restored from " + place + ": " + morning.restore(place) + " " + seen(morning));
        }
        looks.add("the pad: " + brought(made(calls)));
        MendingMornings morning = made(calls);
        // What a text that ends too early is cannot be told before it goes on.
        looks.add("the pad with a work more: " + morning.put('9') + " " + brought(morning));
        return looks;
    }

    private static String brought(MendingMornings morning) {
        morning.clear();
        return morning.count(15) + " " + morning.fault() + " " + morning.bring() + " " + seen(morning);
    }

    private static MendingMornings made(List<Call> calls) {
        MendingMornings morning = new MendingMornings();
        for (Call call : calls) {
            call.make(morning);
        }
        return morning;
    }

    private static String answers(MendingMornings morning, String call, int times) {
        StringBuilder text = new StringBuilder();
        for (int i = 0; i < times; i++) {
            text.append(new Call(call, List.of(), null).make(morning)).append(' ');
        }
        return text.toString();
    }

    private static String seen(MendingMornings morning) {
        return Checks.seen(morning) + "pad " + morning.count(15) + " changes " + morning.count(16);
    }

    private static List<Call> read(String script) {
        List<Call> calls = new ArrayList<>();
        for (String line : script.split("[|\n]")) {
            if (!line.isBlank()) {
                readLine(line.strip(), calls);
            }
        }
        return calls;
    }

    private static void readLine(String line, List<Call> calls) {
        String[] halves = line.split(" = ");
        String[] words = halves[0].strip().split(" +");
        String[] dues = halves.length == 1 ? new String[0] : halves[1].strip().split(" +");
        int times = 1;
        int first = 0;
        if (words[0].matches("[0-9]+x")) {
            times = Integer.parseInt(words[0].substring(0, words[0].length() - 1));
            first = 1;
        }
        for (int i = 0; i < times; i++) {
            readCall(words, first, dues, calls);
        }
    }

    private static void readCall(String[] words, int first, String[] dues, List<Call> calls) {
        String name = words[first];
        Long due = dues.length == 0 ? null : number(dues[0]);
        if (name.equals("text")) {
            readText(words[first + 1], due, calls);
            return;
        }
        List<Long> arguments = new ArrayList<>();
        for (int i = first + 1; i < words.length && !words[i].equals("*"); i++) {
            arguments.add(number(words[i]));
        }
        if (!words[words.length - 1].equals("*")) {
            calls.add(new Call(name, arguments, due));
            return;
        }
        for (int what = 0; what < dues.length; what++) {
            List<Long> all = new ArrayList<>(arguments);
            all.add((long) what);
            calls.add(new Call(name, all, number(dues[what])));
        }
    }

    private static void readText(String text, Long due, List<Call> calls) {
        for (int i = 0; i < text.length(); i += 8) {
            boolean isLast = i + 8 >= text.length();
            long characters = Checks.number(text.substring(i, Math.min(i + 8, text.length())));
            calls.add(new Call("put", List.of(characters), isLast ? due : null));
        }
    }

    private static long number(String word) {
        if (NAMES.containsKey(word)) {
            return NAMES.get(word);
        }
        return word.startsWith("0x") ? Long.parseUnsignedLong(word.substring(2), 16) : Long.parseLong(word);
    }
}
