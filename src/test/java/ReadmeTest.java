import java.io.IOException;
import java.lang.reflect.Method;
import java.lang.reflect.Modifier;
import java.nio.file.Files;
import java.nio.file.Path;
import java.util.ArrayList;
import java.util.HashMap;
import java.util.List;
import java.util.Map;
import java.util.regex.Matcher;
import java.util.regex.Pattern;
import java.util.stream.Collectors;
import java.util.stream.Stream;

/** README.md: its example answers as it says, its tables say what the document says. Takes the paths of both. */
public final class ReadmeTest {
    private static final Due DUE = new Due("ReadmeTest");
    private static final Pattern CALL = Pattern.compile("(?:int (\\w+) = )?day\\.(\\w+)\\((.*)\\); +// (-?\\d+)(:.*)?");
    private static final Pattern ERROR = Pattern.compile("UNKNOWN|BAD_VALUE|FULL|NOT_POSSIBLE|NONE|-100");
    private static final Pattern PROMISE = Pattern.compile("`int (\\w+\\(.*?\\))`: (.*)");

    private final Map<String, Integer> named = new HashMap<>();
    private PaperStations day;

    public static void main(String[] args) throws Exception {
        String document = Files.readString(Path.of(args[1]));
        String readme = Files.readString(Path.of(args[2]));
        new ReadmeTest().runExample(readme);
        constants(readme, document);
        calls(readme, document);
        numbersThatAreTold(readme);
        tests(readme);
        DUE.end();
    }

    private void runExample(String readme) throws ReflectiveOperationException {
        String example = readme.replaceFirst("(?s).*?```java\n", "").replaceFirst("(?s)```.*", "");
        for (String line : example.split("\n")) {
            if (line.equals("PaperStations day = new PaperStations();")) {
                day = new PaperStations();
            } else {
                runLine(line);
            }
        }
    }

    private void runLine(String line) throws ReflectiveOperationException {
        Matcher call = CALL.matcher(line);
        DUE.holds("a line of the example is a call with its answer: " + line, call.matches());
        if (call.matches()) {
            int answer = ask(call.group(2), call.group(3).isEmpty() ? new String[0] : call.group(3).split(", "));
            DUE.is("the example: " + line, answer, Integer.parseInt(call.group(4)));
            if (call.group(1) != null) {
                named.put(call.group(1), answer);
            }
        }
    }

    private int ask(String name, String[] words) throws ReflectiveOperationException {
        Class<?>[] types = new Class<?>[words.length];
        Object[] values = new Object[words.length];
        for (int i = 0; i < words.length; i++) {
            boolean isCharacter = words[i].matches("'.'");
            types[i] = isCharacter ? char.class : int.class;
            values[i] = isCharacter ? (Object) words[i].charAt(1) : (Object) number(words[i]);
        }
        return (int) PaperStations.class.getMethod(name, types).invoke(day, values);
    }

    private Integer number(String word) {
        return named.containsKey(word) ? named.get(word) : Integer.valueOf(word);
    }

    private static void constants(String readme, String document) {
        Matcher constant = Pattern.compile("public static final int (\\w+) = (-\\d+);").matcher(document);
        int met = 0;
        while (constant.find()) {
            met++;
            String row = "| `" + constant.group(1) + "` | " + constant.group(2) + " | ";
            DUE.holds("a row begins with " + row, readme.contains("\n" + row));
        }
        DUE.is("constants of the document", met, 5);
    }

    /** A row's errors must be those of the promise, in the same order: the order of the checks. */
    private static void calls(String readme, String document) {
        int met = 0;
        for (String part : document.split("\n## Promise ")) {
            Matcher promise = PROMISE.matcher(part);
            if (promise.find()) {
                met++;
                Matcher returns = Pattern.compile("\nReturns (.*)").matcher(part);
                DUE.holds(promise.group(1) + " has a line of what it returns", returns.find());
                boolean isAct = part.contains("This is an act.") || part.contains("This is one act.");
                call(readme, promise.group(1), isAct, errors(returns.group(1)));
            }
        }
        long methods = Stream.of(PaperStations.class.getDeclaredMethods()).map(Method::getModifiers)
            .filter(Modifier::isPublic).count();
        DUE.is("calls of the document", met, methods);
    }

    private static void call(String readme, String signature, boolean isAct, List<String> errors) {
        String begin = "| `" + signature + "`" + (isAct ? " * |" : " |");
        List<String> rows = readme.lines().filter(line -> line.startsWith(begin)).collect(Collectors.toList());
        DUE.is("rows that begin with " + begin, rows.size(), 1);
        for (String row : rows) {
            String[] cells = row.split("\\|");
            List<String> told = errors(cells[cells.length - 1]);
            DUE.holds(signature + " answers " + errors + ", told are " + told, told.equals(errors));
        }
    }

    private static List<String> errors(String text) {
        List<String> errors = new ArrayList<>();
        Matcher matcher = ERROR.matcher(text);
        while (matcher.find()) {
            errors.add(matcher.group());
        }
        return errors;
    }

    /** A row of numbers names what each of the four calls tells there, and nothing where it tells nothing. */
    private static void numbersThatAreTold(String readme) {
        int met = 0;
        for (String row : readme.lines().filter(line -> line.matches("\\| \\d+ \\|.*")).collect(Collectors.toList())) {
            String[] cells = row.split(" *\\| *", -1);
            int what = Integer.parseInt(cells[1]);
            PaperStations told = Days.begun(1, 1);
            int[] answers = {told.station(0, what), told.papers(0, what), told.clerk(0, what), told.count(what)};
            for (int call = 0; call < answers.length; call++) {
                boolean isTold = answers[call] != PaperStations.BAD_VALUE;
                DUE.holds("column " + (call + 1) + " of " + row, cells[call + 2].isEmpty() != isTold);
            }
            DUE.is("the rows are in their order", what, met);
            met++;
        }
        DUE.is("rows of numbers", met, 16);
    }

    private static void tests(String readme) throws IOException {
        try (Stream<Path> files = Files.list(Path.of("src/test/java"))) {
            files.map(file -> file.getFileName().toString()).filter(name -> name.endsWith("Test.java"))
                .map(name -> "| `" + name.replace(".java", "") + "` | ")
                .forEach(row -> DUE.holds("a row begins with " + row, readme.contains("\n" + row)));
        }
    }
}
