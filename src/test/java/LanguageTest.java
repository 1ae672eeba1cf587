import java.io.IOException;
import java.lang.reflect.Constructor;
import java.lang.reflect.Field;
import java.lang.reflect.Method;
import java.lang.reflect.Modifier;
import java.nio.file.Files;
import java.nio.file.Path;
import java.util.ArrayList;
import java.util.List;
import java.util.Set;
import java.util.TreeSet;
import java.util.regex.Matcher;
import java.util.regex.Pattern;

/** What LANGUAGE.md asks of the program and a test can see: the face, and what must not stand in the file. */
public final class LanguageTest {
    private static final String FACE = "set(int,int) come(int,int) away(int,boolean) bring() stock(int,int) again(int) pass(int) "
        + "giveOut() clear() fixer(int,int) thing(int,int) step(int,int,int) count(int) plan(int) planned() ifAway(int) "
        + "bestSkill(int) ifPassed(int,int) untilOver() bestPart(int) put(long) wipe() fault() undo() save(int) restore(int)";
    private static final String CONSTANTS = "NO_SUCH=-1 BAD_VALUE=-2 BAD_TEXT=-3 TOO_MANY=-4 NOT_POSSIBLE=-5 NONE=-6 PATIENCE=0 "
        + "TEST=1 WAITING=0 BEING_DONE=1 MENDED=2 GIVEN_UP=3";
    private static final String FORBIDDEN = "\\b(throw|throws|try|catch|finally|synchronized|assert|import|package|volatile|"
        + "equals|hashCode|toString|Exact|System|Thread|Random|lambda|var|record|sealed|double|float)\\b|->|::|@|\\w+Exact\\b|\"";
    private static final String LIBRARY = "Integer.bitCount Math.min Math.max";

    public static void main(String[] args) throws IOException {
        face();
        constants();
        fields();
        insideClasses();
        source(Files.readAllLines(Path.of("src/main/java/MendingMornings.java")));
        Checks.end("LanguageTest");
    }

    private static List<Class<?>> classes() {
        List<Class<?>> classes = new ArrayList<>(List.of(MendingMornings.class.getDeclaredClasses()));
        classes.add(MendingMornings.class);
        return classes;
    }

    private static void isTrue(String what, boolean isSo) {
        Checks.due(what, isSo ? 1 : 0, 1);
    }

    private static void face() {
        Set<String> due = new TreeSet<>(List.of(FACE.split(" ")));
        Set<String> got = new TreeSet<>();
        for (Method method : MendingMornings.class.getDeclaredMethods()) {
            StringBuilder text = new StringBuilder(method.getName()).append('(');
            for (Class<?> type : method.getParameterTypes()) {
                text.append(text.charAt(text.length() - 1) == '(' ? "" : ",").append(type.getName());
            }
            if (Modifier.isPublic(method.getModifiers())) {
                isTrue(method + " returns an int", method.getReturnType() == int.class);
                got.add(text.append(')').toString());
            } else {
                isTrue(method + " is private", Modifier.isPrivate(method.getModifiers()));
            }
        }
        isTrue("the methods of the face: " + got, got.equals(due));
        isTrue("a final public class", MendingMornings.class.getModifiers() == (Modifier.PUBLIC | Modifier.FINAL));
        Constructor<?>[] constructors = MendingMornings.class.getDeclaredConstructors();
        Checks.due("one constructor", constructors.length, 1);
        isTrue("it is public, without arguments", constructors[0].toString().equals("public MendingMornings()"));
    }

    private static void constants() {
        int[] values = {MendingMornings.NO_SUCH, MendingMornings.BAD_VALUE, MendingMornings.BAD_TEXT, MendingMornings.TOO_MANY,
            MendingMornings.NOT_POSSIBLE, MendingMornings.NONE, MendingMornings.PATIENCE, MendingMornings.TEST,
            MendingMornings.WAITING, MendingMornings.BEING_DONE, MendingMornings.MENDED, MendingMornings.GIVEN_UP};
        String[] due = CONSTANTS.split(" ");
        for (int i = 0; i < due.length; i++) {
            Checks.due(due[i], values[i], Integer.parseInt(due[i].split("=")[1]));
        }
        Checks.due("public fields", MendingMornings.class.getFields().length, due.length);
    }

    private static void fields() {
        for (Class<?> type : classes()) {
            int own = 0;
            for (Field field : type.getDeclaredFields()) {
                int modifiers = field.getModifiers();
                isTrue(field + ": static is final", !Modifier.isStatic(modifiers) || Modifier.isFinal(modifiers));
                isTrue(field + ": public or private", type != MendingMornings.class || Modifier.isPrivate(modifiers)
                    || Modifier.isPublic(modifiers) && Modifier.isStatic(modifiers));
                own += Modifier.isStatic(modifiers) ? 0 : 1;
            }
            isTrue(type + " has at most 20 fields", own <= 20);
        }
    }

    private static void insideClasses() {
        isTrue("at most 12 classes", classes().size() <= 12);
        Set<String> names = new TreeSet<>();
        for (String method : FACE.split(" ")) {
            names.add(method.substring(0, method.indexOf('(')));
        }
        for (Class<?> type : classes()) {
            if (type != MendingMornings.class) {
                isTrue(type + " is static", Modifier.isStatic(type.getModifiers()));
                Checks.due(type + ", classes inside", type.getDeclaredClasses().length, 0);
            }
            for (Method method : type.getDeclaredMethods()) {
                isTrue(method + ": not a public one's name", type == MendingMornings.class
                    && Modifier.isPublic(method.getModifiers()) || !names.contains(method.getName()));
                isTrue(method + ": at most seven parameters", method.getParameterCount() <= 7);
                isTrue(method + ": no lambda", !method.isSynthetic());
            }
        }
    }

    private static void source(List<String> lines) {
        boolean isComment = false;
        for (int i = 0; i < lines.size(); i++) {
            String line = lines.get(i);
            isTrue("line " + (i + 1) + ": plain signs, at most 130", line.matches("[ -~]{0,130}"));
            isComment |= line.strip().startsWith("/*");
            if (!isComment && !line.strip().startsWith("//")) {
                dueLine(i + 1, line);
            }
            isComment &= !line.contains("*/");
        }
        Checks.due("methods and constructors", shortMethods(lines, 4) + shortMethods(lines, 8), memberCount());
    }

    /** Counts the methods that stand that far in, and checks their lengths. */
    private static int shortMethods(List<String> lines, int indent) {
        String in = " ".repeat(indent);
        int many = 0;
        int start = -1;
        boolean isInside = false;
        for (int i = 0; i < lines.size(); i++) {
            isInside = (isInside || lines.get(i).startsWith("    private static final class")) && !lines.get(i).equals("    }");
            boolean isHead = lines.get(i).matches(in + "[^ ].*\\) \\{");
            if (isHead && isInside == (indent == 8)) {
                start = i;
                many++;
            }
            if (start >= 0 && lines.get(i).equals(in + "}")) {
                isTrue("the method at line " + (start + 1) + " is short", i - start < 60);
                start = -1;
            }
        }
        return many;
    }

    private static int memberCount() {
        int many = 0;
        for (Class<?> type : classes()) {
            many += type.getDeclaredMethods().length;
            for (Constructor<?> constructor : type.getDeclaredConstructors()) {
                many += Modifier.isPrivate(constructor.getModifiers()) ? 0 : 1;
            }
        }
        return many;
    }

    private static void dueLine(int number, String line) {
        isTrue("line " + number + " keeps to the language: " + line, !Pattern.compile(FORBIDDEN).matcher(line).find());
        Matcher library = Pattern.compile("\\b(Integer|Math|Long|String|Arrays|List|ArrayList)\\b\\.?\\w*").matcher(line);
        while (library.find()) {
            isTrue("line " + number + ": " + library.group(), List.of(LIBRARY.split(" ")).contains(library.group()));
        }
    }
}
