import java.util.Arrays;
import java.util.LinkedHashMap;
import java.util.List;
import java.util.Map;
import java.util.function.IntUnaryOperator;
import java.util.function.Supplier;
import java.util.function.ToIntFunction;

/**
 * Tests that are named by the document's sentences. A name that the document does not say, and a sentence
 * of the terms and promises that names no test, are faults too.
 */
final class Sentences {
    /** A call with one of its arguments left open. */
    interface Asked {
        int of(PaperStations day, int value);
    }

    private final Due due = new Due("BoundariesTest");
    private final Map<String, String> untested = new LinkedHashMap<>();
    private String section = "";
    private String sentence = "";

    Sentences(String document) {
        String heading = "";
        for (String line : document.split("\n")) {
            if (line.startsWith("## ") || line.matches("[A-Z][A-Z ]*")) {
                heading = line.replaceFirst("^## ", "");
            } else if (!line.startsWith("Ahead of the calls")) {
                String words = line.replaceFirst("^`[^`]*\\([^`]*`: ", "");
                untested.merge(heading, words, (before, more) -> before + " " + more);
            }
        }
    }

    static int[] outside(int least, int most) {
        return new int[] {least - 1, most + 1, Integer.MIN_VALUE, Integer.MAX_VALUE};
    }

    void under(String heading) {
        section = heading;
    }

    void test(String name, Runnable test) {
        sentence = name;
        String words = untested.getOrDefault(section, "");
        int at = words.indexOf(name);
        holds("the document says so", at >= 0);
        if (at >= 0) {
            untested.put(section, words.substring(0, at) + " " + words.substring(at + name.length()));
        }
        int before = due.checked();
        test.run();
        holds("something is tested", due.checked() > before);
    }

    void is(String call, long got, long want) {
        due.is(named(call), got, want);
    }

    void holds(String what, boolean condition) {
        due.holds(named(what), condition);
    }

    private String named(String call) {
        return "[" + section + "] \"" + sentence + "\": " + call;
    }

    /** An error or NONE, which changes nothing: neither the state nor the text, history or snapshot. */
    void refuses(String call, int want, Supplier<PaperStations> made, ToIntFunction<PaperStations> asked) {
        is(call, asked.applyAsInt(made.get()), want);
        holds(call + " changes nothing", Told.all(Told.then(made, asked)).equals(Told.all(made)));
    }

    void refusesEach(String call, int want, Supplier<PaperStations> made, Asked asked, int... values) {
        for (int value : values) {
            refuses(call + " of " + value, want, made, day -> asked.of(day, value));
        }
    }

    void answersEach(String call, Supplier<PaperStations> made, Asked asked, IntUnaryOperator want, int... values) {
        for (int value : values) {
            is(call + " of " + value, asked.of(made.get(), value), want.applyAsInt(value));
        }
    }

    /** Records the state that was before it, with room in the history and without. */
    void isAct(String call, Supplier<PaperStations> made, ToIntFunction<PaperStations> asked) {
        records(call, made, asked);
        records(call + " with a full history", () -> withFullHistory(made.get()), asked);
    }

    private static PaperStations withFullHistory(PaperStations day) {
        day.keep();
        for (int times = 0; times < 4; times++) {
            day.restore();
        }
        return day;
    }

    private void records(String call, Supplier<PaperStations> made, ToIntFunction<PaperStations> asked) {
        PaperStations day = made.get();
        int behind = Math.min(day.count(14) + 1, 4);
        holds(call + " answers no error", asked.applyAsInt(day) >= 0);
        is(call + ": states behind it", day.count(14), behind);
        is(call + ": undo()", day.undo(), behind - 1);
        holds(call + ": undo() restores the state before it", Told.state(day).equals(Told.state(made.get())));
        for (int older = 1; older < behind; older++) {
            List<Integer> undone = Told.behindUndos(Told.then(made, asked), older + 1);
            PaperStations before = made.get();
            for (int times = 0; times < older; times++) {
                before.undo();
            }
            List<Integer> want = Told.state(before);
            List<Integer> got = undone.subList(older + 2, undone.size());
            holds(call + ": the state " + older + " before that is left", got.equals(want));
        }
    }

    /** Leaves the history as it was, and the state. */
    void isNoAct(String call, Supplier<PaperStations> made, ToIntFunction<PaperStations> asked) {
        for (int undone = 0; undone <= 4; undone++) {
            List<Integer> got = Told.behindUndos(Told.then(made, asked), undone);
            holds(call + " is no act: " + undone + " undone", got.equals(Told.behindUndos(made, undone)));
        }
    }

    void areNumbers(String call, int[] got, int... want) {
        holds(call + " are " + Arrays.toString(got) + ", due are " + Arrays.toString(want), Arrays.equals(got, want));
    }

    void end() {
        untested.forEach((heading, words) -> {
            boolean promised = heading.matches("Promise .*|[A-Z][A-Z ]*");
            due.holds("[" + heading + "] no test has the name: " + words.trim(), !promised || words.trim().isEmpty());
        });
        due.end();
    }
}
