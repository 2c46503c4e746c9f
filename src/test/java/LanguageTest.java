import java.io.IOException;
import java.lang.reflect.Constructor;
import java.lang.reflect.Field;
import java.lang.reflect.Method;
import java.lang.reflect.Modifier;
import java.nio.file.Files;
import java.nio.file.Path;
import java.util.ArrayList;
import java.util.Arrays;
import java.util.List;
import java.util.Set;
import java.util.TreeSet;
import java.util.regex.Matcher;
import java.util.regex.Pattern;

/** The face of the document, and those rules of ../shared/LANGUAGE.md that can be seen from outside or in the words. */
public final class LanguageTest {
    private static final String FACE = "row3 set3 copy5 drop1 feed1 city0 fault0 make2 dim2 train2 know2 undo0 gesture2 "
        + "street2 duty2 tell5 shut1 quick3 thread3 inches4 sorts4 saved1 worst2 tremble6 image1 restore1 kind1 as2 "
        + "ask2 trace1 count1 status0";
    private static final String[] UNWANTED = {"throw", "throws", "try", "catch", "finally", "synchronized", "assert",
        "import", "package", "protected", "volatile", "native", "transient"};

    private static final Check check = new Check();

    public static void main(String[] args) throws IOException {
        face();
        constants();
        for (Class<?> inner : SignDuty.class.getDeclaredClasses()) {
            innerClass(inner);
        }
        check.due("classes at most 12", SignDuty.class.getDeclaredClasses().length < 12 ? 1 : 0, 1);
        words(withoutComments(Files.readString(Path.of("src/main/java/SignDuty.java"))));
        check.end();
    }

    private static void holds(String rule, boolean is) {
        check.due(rule, is ? 1 : 0, 1);
    }

    private static void face() {
        Set<String> due = new TreeSet<>(Arrays.asList(FACE.split(" ")));
        Set<String> open = new TreeSet<>();
        Set<String> names = new TreeSet<>();
        for (Method method : SignDuty.class.getDeclaredMethods()) {
            if (Modifier.isPublic(method.getModifiers())) {
                open.add(method.getName() + method.getParameterCount());
                names.add(method.getName());
                holds(method + " answers an int", method.getReturnType() == int.class);
                holds(method + " is of an object", !Modifier.isStatic(method.getModifiers()));
                for (Class<?> type : method.getParameterTypes()) {
                    holds(method + " takes ints", type == int.class);
                }
            }
        }
        holds("the face is " + due + ", not " + open, open.equals(due));
        privateMembers(SignDuty.class, names);
        for (Class<?> inner : SignDuty.class.getDeclaredClasses()) {
            for (Method method : inner.getDeclaredMethods()) {
                holds(method + " has no name of the face", !names.contains(method.getName()));
                holds(method + " takes seven at most", method.getParameterCount() <= 7);
            }
        }
        int modifiers = SignDuty.class.getModifiers();
        holds("the class is public and final", Modifier.isPublic(modifiers) && Modifier.isFinal(modifiers));
        Constructor<?>[] constructors = SignDuty.class.getDeclaredConstructors();
        holds("one constructor", constructors.length == 1 && constructors[0].getParameterCount() == 0);
        holds("it is public", Modifier.isPublic(constructors[0].getModifiers()));
    }

    private static void privateMembers(Class<?> type, Set<String> names) {
        for (Method method : type.getDeclaredMethods()) {
            if (!Modifier.isPublic(method.getModifiers())) {
                holds(method + " is private", Modifier.isPrivate(method.getModifiers()));
                holds(method + " has no name of the face", !names.contains(method.getName()));
                holds(method + " takes seven at most", method.getParameterCount() <= 7);
            }
        }
    }

    private static void constants() {
        int open = 0;
        for (Field field : SignDuty.class.getDeclaredFields()) {
            boolean isOpen = !Modifier.isPrivate(field.getModifiers());
            open += isOpen ? 1 : 0;
            holds(field + " is public or private", !isOpen || Modifier.isPublic(field.getModifiers()));
        }
        check.due("open constants", open, 4);
        check.due("NONE", SignDuty.NONE, -1000000);
        check.due("BAD", SignDuty.BAD, -1000001);
        check.due("STATE", SignDuty.STATE, -1000002);
        check.due("FULL", SignDuty.FULL, -1000003);
        fields(SignDuty.class);
    }

    private static void innerClass(Class<?> inner) {
        holds(inner + " is static", Modifier.isStatic(inner.getModifiers()));
        holds(inner + " is not open", (inner.getModifiers() & (Modifier.PUBLIC | Modifier.PROTECTED)) == 0);
        check.due(inner + " has no class inside", inner.getDeclaredClasses().length, 0);
        fields(inner);
    }

    private static void fields(Class<?> type) {
        int own = 0;
        for (Field field : type.getDeclaredFields()) {
            boolean isStatic = Modifier.isStatic(field.getModifiers());
            own += isStatic ? 0 : 1;
            holds(field + " is final, if static", !isStatic || Modifier.isFinal(field.getModifiers()));
        }
        holds(type + " has twenty fields at most", own <= 20);
    }

    private static String withoutComments(String source) {
        return Pattern.compile("/\\*.*?\\*/", Pattern.DOTALL).matcher(source).replaceAll("").replaceAll("//[^\n]*", "");
    }

    private static void words(String code) {
        for (String word : UNWANTED) {
            holds("no " + word, !Pattern.compile("\\b" + word + "\\b").matcher(code).find());
        }
        holds("no default but in a switch", !Pattern.compile("\\bdefault\\b(?!:)").matcher(code).find());
        holds("no lambda", !code.contains("->"));
        holds("no method reference", !code.contains("::"));
        holds("no static block", !Pattern.compile("static\\s*\\{").matcher(code).find());
        holds("no annotation", !code.contains("@"));
        holds("signs 1 to 126", code.chars().allMatch(sign -> sign > 0 && sign < 127));
        makesOnlyInFields(code);
        namesOnlyTheLibrary(code);
        lengths(code);
    }

    /** So many calls live in one room: rows are made with the object, and by no call. */
    private static void makesOnlyInFields(String code) {
        for (String line : code.split("\n")) {
            if (line.contains("new ")) {
                holds("made with the object: " + line, line.contains("final ") && line.contains("="));
            }
        }
    }

    private static void namesOnlyTheLibrary(String code) {
        List<String> used = new ArrayList<>();
        Matcher matcher = Pattern.compile("\\b(Math|Integer|System|Arrays|Long|String|List)\\.(\\w+)").matcher(code);
        while (matcher.find()) {
            used.add(matcher.group());
        }
        used.removeAll(List.of("Math.max", "Math.min", "Integer.bitCount", "System.arraycopy"));
        check.due("names of the library " + used, used.size(), 0);
    }

    private static void lengths(String code) {
        int open = -1;
        String[] lines = code.split("\n");
        for (int i = 0; i < lines.length; i++) {
            if (lines[i].matches("( {4}| {8})[^ }/].*\\) \\{")) {
                open = i;
            } else if (open >= 0 && lines[i].matches("( {4}| {8})\\}")) {
                holds("at most 60 lines: " + lines[open], i - open < 60);
                open = -1;
            }
        }
    }
}
