import java.io.IOException;
import java.lang.reflect.Constructor;
import java.lang.reflect.Field;
import java.lang.reflect.Method;
import java.lang.reflect.Modifier;
import java.nio.file.Files;
import java.nio.file.Path;
import java.util.ArrayList;
import java.util.Arrays;
import java.util.List;
import java.util.Set;
import java.util.TreeSet;
import java.util.regex.Matcher;
import java.util.regex.Pattern;
import java.util.stream.Collectors;

/** The public face, and rules of LANGUAGE.md that can be read off the class or off the source. Takes its path. */
public final class LanguageTest {
    private static final Due DUE = new Due("LanguageTest");
    private static final String[] FACE = {
        "addStation()", "addClerk(int,int)", "setArrivals(int,int,int)", "assign(int,int)", "relieve(int)",
        "pass(int)", "supply(int,int)", "movePapers(int,int,int)", "spoil(int,int)", "carryOff(int,int)",
        "find(int,int)", "countBox(int,int)", "type(char)", "clearText()", "readArrivals(int,int)", "undo()",
        "keep()", "restore()", "station(int,int)", "papers(int,int)", "clerk(int,int)", "arrivals(int,int)",
        "free(int)", "busiest(int)", "queueIn(int,int)", "lacks(int)", "count(int)"};
    private static final String[] CONSTANTS = {"UNKNOWN", "BAD_VALUE", "FULL", "NOT_POSSIBLE", "NONE"};
    private static final String[] FORBIDDEN = {
        "\\b(throw|throws|try|catch|finally|synchronized|assert|import|package|native|volatile|transient)\\b",
        "->", "::", "\\b(Object|Exception|Error|RuntimeException|Throwable|Thread|System\\.(?!arraycopy))\\b",
        "\\bget(Class|Message)\\b", "\\b(hashCode|toString|equals)\\b", "Exact\\b", "\\bnull\\b"};

    public static void main(String[] args) throws IOException {
        face();
        constructor();
        fields();
        classesInside();
        source(Files.readString(Path.of(args[0])));
        DUE.end();
    }

    private static void face() {
        Set<String> met = new TreeSet<>();
        Set<String> names = new TreeSet<>();
        for (Method method : PaperStations.class.getDeclaredMethods()) {
            if (Modifier.isPublic(method.getModifiers())) {
                met.add(signature(method));
                names.add(method.getName());
                DUE.holds(method + " answers an int", method.getReturnType() == int.class);
                DUE.holds(method + " is of the object", !Modifier.isStatic(method.getModifiers()));
            }
        }
        DUE.holds("the methods are those of the document: " + met, met.equals(new TreeSet<>(Arrays.asList(FACE))));
        for (Method method : PaperStations.class.getDeclaredMethods()) {
            if (!Modifier.isPublic(method.getModifiers())) {
                DUE.holds(method + " is private", Modifier.isPrivate(method.getModifiers()));
                DUE.holds(method + " has a name of its own", !names.contains(method.getName()));
            }
        }
        int modifiers = PaperStations.class.getModifiers();
        DUE.holds("the class is public and final", Modifier.isPublic(modifiers) && Modifier.isFinal(modifiers));
        DUE.holds("the class has no package", PaperStations.class.getPackageName().isEmpty());
    }

    private static String signature(Method method) {
        return method.getName() + Arrays.stream(method.getParameterTypes()).map(Class::getName)
            .collect(Collectors.joining(",", "(", ")"));
    }

    private static void constructor() {
        Constructor<?>[] constructors = PaperStations.class.getDeclaredConstructors();
        DUE.is("constructors", constructors.length, 1);
        DUE.holds("the constructor is public", Modifier.isPublic(constructors[0].getModifiers()));
        DUE.is("parameters of the constructor", constructors[0].getParameterCount(), 0);
    }

    private static void fields() {
        List<String> shown = new ArrayList<>();
        for (Field field : PaperStations.class.getDeclaredFields()) {
            int modifiers = field.getModifiers();
            if (Modifier.isPublic(modifiers)) {
                shown.add(field.getName());
                DUE.holds(field + " is a constant", Modifier.isStatic(modifiers) && Modifier.isFinal(modifiers));
            } else {
                DUE.holds(field + " is private", Modifier.isPrivate(modifiers));
            }
        }
        DUE.holds("the constants are those of the document: " + shown, shown.equals(Arrays.asList(CONSTANTS)));
        staticFieldsAreFinal(PaperStations.class);
    }

    private static void staticFieldsAreFinal(Class<?> type) {
        for (Field field : type.getDeclaredFields()) {
            int modifiers = field.getModifiers();
            DUE.holds(field + " is no static state", !Modifier.isStatic(modifiers) || Modifier.isFinal(modifiers));
        }
        long own = Arrays.stream(type.getDeclaredFields()).filter(f -> !Modifier.isStatic(f.getModifiers())).count();
        DUE.holds(type + " has some twenty fields: " + own, own <= 20);
    }

    private static void classesInside() {
        Class<?>[] inside = PaperStations.class.getDeclaredClasses();
        DUE.holds("some twelve classes", inside.length <= 12);
        for (Class<?> type : inside) {
            int modifiers = type.getModifiers();
            DUE.holds(type + " is static", Modifier.isStatic(modifiers));
            DUE.holds(type + " is not shown", !Modifier.isPublic(modifiers) && !Modifier.isProtected(modifiers));
            staticFieldsAreFinal(type);
        }
    }

    private static void source(String text) {
        String code = text.replaceAll("(?s)/\\*.*?\\*/", " ").replaceAll("//[^\n]*", " ");
        for (String forbidden : FORBIDDEN) {
            Matcher matcher = Pattern.compile(forbidden).matcher(code);
            DUE.holds("no " + forbidden, !matcher.find());
        }
        DUE.holds("signs 1 to 127 alone", text.chars().allMatch(sign -> sign >= 1 && sign <= 127));
        methodsAreShort(text);
    }

    /** A method's body ends at the first line that closes at the depth at which its head stands. */
    private static void methodsAreShort(String text) {
        String[] lines = text.split("\n");
        Pattern head = Pattern.compile("^( {4}| {8})(?! )[\\w\\[\\] ]+\\(.*\\) \\{$");
        for (int i = 0; i < lines.length; i++) {
            Matcher matcher = head.matcher(lines[i]);
            if (matcher.matches() && !lines[i].trim().startsWith("if") && !lines[i].trim().startsWith("for")) {
                int end = i;
                while (end < lines.length && !lines[end].equals(matcher.group(1) + "}")) {
                    end++;
                }
                DUE.holds(lines[i].trim() + " is short: " + (end - i), end - i <= 60);
            }
        }
    }
}
