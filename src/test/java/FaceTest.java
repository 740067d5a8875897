import java.io.IOException;
import java.lang.reflect.Constructor;
import java.lang.reflect.Field;
import java.lang.reflect.Method;
import java.lang.reflect.Modifier;
import java.nio.charset.StandardCharsets;
import java.nio.file.Files;
import java.nio.file.Path;
import java.util.Arrays;
import java.util.Set;
import java.util.TreeSet;
import java.util.regex.Matcher;
import java.util.regex.Pattern;

/** The public face of the document, and those rules of LANGUAGE.md that can be seen from outside. */
public final class FaceTest {
    private static final String[] METHODS = {
        "int set(int, int, long, long)", "int clear(int)", "int sort(int)", "long low(int)", "long high(int)",
        "int hull(int, int, int)", "int meet(int, int, int)", "int size(int, int)", "int round(int, int, int)",
        "int sign(int, int)", "int lend(int, int, int)", "int turn(int, int)", "int as(int, int, int)",
        "long near(int, long)", "int has(int, long)", "int alike(int, int)", "int step(int, int, int, int, int)",
        "int run(int, int)", "int state()", "int about(int)"};

    /** Words that stand for what the language rules out; none of them is needed in this class. */
    private static final String[] RULED_OUT = {"import", "package", "->", "::", "try", "catch", "finally", "throw",
        "synchronized", "assert", "float", "double", "Float", "Double", "Exact", "System", "Object", "instanceof",
        "static {"};

    private static final Checks CHECKS = new Checks();

    public static void main(String[] args) throws IOException {
        methods();
        constants();
        classes();
        source();
        CHECKS.end();
    }

    private static String signature(Method method) {
        StringBuilder text = new StringBuilder(method.getReturnType() + " " + method.getName() + "(");
        for (Class<?> type : method.getParameterTypes()) {
            text.append(text.charAt(text.length() - 1) == '(' ? "" : ", ").append(type);
        }
        return text.append(")").toString();
    }

    private static void methods() {
        Set<String> seen = new TreeSet<>();
        Set<String> publicNames = new TreeSet<>();
        for (Method method : StretchDesk.class.getDeclaredMethods()) {
            if (Modifier.isPublic(method.getModifiers())) {
                seen.add(signature(method));
                publicNames.add(method.getName());
                CHECKS.holds(method + " is of the object", !Modifier.isStatic(method.getModifiers()));
                CHECKS.holds(method + " declares no exception", method.getExceptionTypes().length == 0);
            } else {
                CHECKS.holds(method + " is private", Modifier.isPrivate(method.getModifiers()));
            }
        }
        Set<String> wanted = new TreeSet<>(Arrays.asList(METHODS));
        CHECKS.holds("the public methods are the document's: " + seen, seen.equals(wanted));
        noOtherBearsAPublicName(StretchDesk.class, publicNames);
        for (Class<?> inside : StretchDesk.class.getDeclaredClasses()) {
            noOtherBearsAPublicName(inside, publicNames);
        }
    }

    private static void noOtherBearsAPublicName(Class<?> type, Set<String> publicNames) {
        for (Method method : type.getDeclaredMethods()) {
            CHECKS.holds(method + ": at most seven parameters", method.getParameterCount() <= 7);
            if (!Modifier.isPublic(method.getModifiers())) {
                CHECKS.holds(method + " bears no public name", !publicNames.contains(method.getName()));
            }
        }
    }

    private static void constants() {
        int fields = 0;
        for (Field field : StretchDesk.class.getDeclaredFields()) {
            int modifiers = field.getModifiers();
            boolean isNone = field.getName().equals("NONE");
            boolean isStatic = Modifier.isStatic(modifiers);
            CHECKS.holds(field + " is private, but for NONE", Modifier.isPrivate(modifiers) || isNone);
            CHECKS.holds(field + " is final if it is static", Modifier.isFinal(modifiers) || !isStatic);
            fields += isStatic ? 0 : 1;
        }
        CHECKS.holds("some twenty fields", fields <= 20);
        CHECKS.due("NONE", StretchDesk.NONE, -1);
    }

    private static void classes() {
        CHECKS.holds("the class is public and final", Modifier.isPublic(StretchDesk.class.getModifiers())
            && Modifier.isFinal(StretchDesk.class.getModifiers()));
        Constructor<?>[] constructors = StretchDesk.class.getDeclaredConstructors();
        CHECKS.due("one constructor", constructors.length, 1);
        CHECKS.holds("it is public, without parameters", Modifier.isPublic(constructors[0].getModifiers())
            && constructors[0].getParameterCount() == 0);
        for (Class<?> inside : StretchDesk.class.getDeclaredClasses()) {
            int modifiers = inside.getModifiers();
            CHECKS.holds(inside + " is static and not public", Modifier.isStatic(modifiers)
                && !Modifier.isPublic(modifiers) && !Modifier.isProtected(modifiers));
        }
    }

    private static void source() throws IOException {
        String text = Files.readString(Path.of("src/main/java/StretchDesk.java"), StandardCharsets.UTF_8);
        CHECKS.holds("signs 1 to 127 alone", text.chars().allMatch(c -> c > 0 && c < 128));
        String code = text.replaceAll("(?s)/\\*.*?\\*/", "").replaceAll("//[^\n]*", "");
        for (String word : RULED_OUT) {
            String edge = Character.isLetter(word.charAt(0)) ? "\\b" : "";
            String before = word.equals("Exact") ? "" : edge;
            String after = word.equals("static {") ? "" : edge;
            String pattern = before + Pattern.quote(word) + after;
            Matcher matcher = Pattern.compile(pattern).matcher(code);
            CHECKS.holds("no '" + word + "' in the source", !matcher.find());
        }
    }
}
