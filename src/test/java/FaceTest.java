import java.lang.reflect.Constructor;
import java.lang.reflect.Field;
import java.lang.reflect.Method;
import java.lang.reflect.Modifier;
import java.nio.file.Files;
import java.nio.file.Path;
import java.util.Arrays;
import java.util.HashSet;
import java.util.Set;
import java.util.TreeSet;
import java.util.regex.Matcher;
import java.util.regex.Pattern;
import java.util.stream.Collectors;

/** The public face, and what a search of the source can tell of the language's rules. Runs in the project's folder. */
public final class FaceTest {
    private static final Path SOURCE = Path.of("src/main/java/EarlyDrops.java");
    private static final String INDEX = " throws IndexOutOfBoundsException";
    private static final String ARGUMENT = " throws IllegalArgumentException";
    private static final String BOTH = " throws IndexOutOfBoundsException,IllegalArgumentException";
    private static final String[] FACE = {
        "int feed(int,int,int,int,int)", "int load()", "int run()", "int errorPosition()", "int size(int)" + ARGUMENT,
        "int flow(int,int)" + BOTH, "int letter(int,int)" + INDEX, "int packet(int,int)" + BOTH,
        "long account(int,int)" + BOTH, "int decision(int,int)" + BOTH, "int amiss()", "double average()",
        "float lossShare()", "double fairness()", "double meanWait(int)" + INDEX, "int base(int)" + ARGUMENT,
        "int chance(int,int)" + ARGUMENT, "int next()", "int nextChance()", "double burst(int)" + ARGUMENT,
        "int sureBurst(int)" + ARGUMENT, "long accountIn(int,int,int)" + BOTH, "int queueIn(int)" + ARGUMENT,
        "int averageIn(int)" + ARGUMENT, "int windowIn(int,int)" + BOTH, "int longest(int)" + ARGUMENT, "int dropIn()",
        "int bestWeight(int)" + ARGUMENT, "int bestTop(int)" + ARGUMENT, "long gain(int)" + ARGUMENT,
        "int tick(int)" + ARGUMENT, "int send(int,int)" + BOTH, "int setLimits(int,int)" + ARGUMENT,
        "int setTop(int)" + ARGUMENT, "int setWeight(int)" + ARGUMENT, "int setGentle(int)" + ARGUMENT,
        "int setOn(int,boolean)" + INDEX, "int report()", "int reportByte(int)", "int undo()", "int save(int)" + ARGUMENT,
        "int restore(int)" + ARGUMENT};
    // what no program within the rules can hold; it need not be in the style of this one
    private static final String[] OUTSIDE = {
        "::", "\\bfinally\\b", "\\bassert\\b", "\\bsynchronized\\b", "\\bvolatile\\b", "\\bnative\\b", "\"\\s*\\+", "\\+\\s*\"",
        "\\bSystem\\.(?!arraycopy)", "\\bThread\\b", "\\bRandom\\b", "\\bString\\.", "\\bhashCode\\b", "\\bprotected\\b",
        "\\bpackage\\b", "[^\\x00-\\x7f]", "\\bstatic \\{", "\\bwhile \\(true\\)", "\\bimport (?!java\\.util\\.)", "\\bMath\\.random",
        "\\bcatch \\((?!IllegalState|IllegalArgument|IndexOutOfBounds|Arithmetic|UnsupportedOperation|NoSuchElement|Runtime)",
        "(?m)^(?!\\s*(case|default)\\b).*->"};

    private FaceTest() {
    }

    public static void main(String[] args) throws Exception {
        face();
        members();
        source(Files.readString(SOURCE));
        Checks.end();
    }

    private static void face() {
        Set<String> found = new TreeSet<>();
        for (Method m : EarlyDrops.class.getDeclaredMethods()) {
            if (!Modifier.isPrivate(m.getModifiers())) {
                String thrown = Arrays.stream(m.getExceptionTypes()).map(Class::getSimpleName).collect(Collectors.joining(","));
                String parameters = Arrays.stream(m.getParameterTypes()).map(Class::getSimpleName).collect(Collectors.joining(","));
                found.add(m.getReturnType() + " " + m.getName() + "(" + parameters + ")" + (thrown.isEmpty() ? "" : " throws " + thrown));
            }
        }
        Checks.due("the face", new TreeSet<>(Arrays.asList(FACE)), () -> found);
        Checks.due("public and final", Modifier.PUBLIC | Modifier.FINAL, () -> EarlyDrops.class.getModifiers());
        Constructor<?>[] made = EarlyDrops.class.getDeclaredConstructors();
        Checks.due("one public constructor", "1 true", () -> made.length + " " + Modifier.isPublic(made[0].getModifiers()));
    }

    private static void members() {
        Set<String> names = new HashSet<>();
        for (Method m : EarlyDrops.class.getDeclaredMethods()) {
            if (Modifier.isPublic(m.getModifiers())) {
                names.add(m.getName());
            }
        }
        for (Method m : EarlyDrops.class.getDeclaredMethods()) {
            if (Modifier.isPrivate(m.getModifiers())) {
                Checks.due("private " + m.getName() + " has a name of the face", false, () -> names.contains(m.getName()));
            }
        }
        for (Field f : EarlyDrops.class.getDeclaredFields()) {
            boolean isNone = f.getName().equals("NONE");
            Checks.due(f.getName() + " is public", isNone, () -> Modifier.isPublic(f.getModifiers()));
            Checks.due(f.getName() + " is private", !isNone, () -> Modifier.isPrivate(f.getModifiers()));
        }
        for (Class<?> inside : EarlyDrops.class.getDeclaredClasses()) {
            Checks.due(inside.getName() + " is not public", false, () -> Modifier.isPublic(inside.getModifiers()));
            for (Field f : inside.getDeclaredFields()) {
                boolean isStatic = Modifier.isStatic(f.getModifiers());
                Checks.due(f + " is final if it is static", true, () -> !isStatic || Modifier.isFinal(f.getModifiers()));
            }
            for (Method m : inside.getDeclaredMethods()) {
                Checks.due(m + " has at most seven parameters", true, () -> m.getParameterCount() <= 7);
            }
        }
        Checks.due("some twelve classes", true, () -> EarlyDrops.class.getDeclaredClasses().length <= 14);
    }

    private static void source(String text) {
        String code = text.replaceAll("(?s)/\\*.*?\\*/", "").replaceAll("//[^\n]*", "");
        for (String pattern : OUTSIDE) {
            Matcher m = Pattern.compile(pattern).matcher(code);
            boolean isThere = m.find();
            Checks.due("rules: " + pattern, "", () -> isThere ? m.group() : "");
        }
    }
}
