import java.util.ArrayList;
import java.util.List;
import java.util.function.Supplier;
import java.util.function.ToIntFunction;

/**
 * All that an object tells of itself, to see that two of them are in the same state. A day is told by
 * at most 350 calls, so each part of what lies deeper is told by an object that is made for it.
 */
final class Told {
    private static final int MOST_STATES = 4;

    private Told() {
    }

    static Supplier<PaperStations> then(Supplier<PaperStations> made, ToIntFunction<PaperStations> call) {
        return () -> {
            PaperStations day = made.get();
            call.applyAsInt(day);
            return day;
        };
    }

    /** The state, without the text, the history and the snapshot. */
    static List<Integer> state(PaperStations day) {
        List<Integer> told = new ArrayList<>();
        for (int what = 0; what <= 13; what++) {
            told.add(day.count(what));
        }
        for (int station = 0; station < day.count(1); station++) {
            tellStation(day, station, told);
        }
        for (int clerk = 0; clerk < day.count(2); clerk++) {
            for (int what = 0; what <= 6; what++) {
                told.add(day.clerk(clerk, what));
            }
        }
        for (int place = 0; place < day.count(4); place++) {
            told.add(day.free(place));
        }
        for (int place = 0; place < day.count(1); place++) {
            told.add(day.busiest(place));
        }
        return told;
    }

    private static void tellStation(PaperStations day, int station, List<Integer> told) {
        for (int what = 0; what <= 7; what++) {
            told.add(day.station(station, what));
        }
        for (int what = 0; what <= 8; what++) {
            told.add(day.papers(station, what));
        }
        for (int hour = 0; hour <= 14; hour++) {
            told.add(day.arrivals(station, hour));
        }
        told.add(day.queueIn(station, 18 - day.count(0)));
        told.add(day.lacks(station));
    }

    /** The present state, each state of the history, the snapshot's and the text. */
    static List<List<Integer>> all(Supplier<PaperStations> made) {
        List<List<Integer>> told = new ArrayList<>();
        for (int undone = 0; undone <= MOST_STATES; undone++) {
            told.add(behindUndos(made, undone));
        }
        PaperStations day = made.get();
        told.add(List.of(day.restore()));
        told.add(state(day));
        told.add(textOf(made.get()));
        return told;
    }

    static List<Integer> behindUndos(Supplier<PaperStations> made, int times) {
        PaperStations day = made.get();
        List<Integer> told = new ArrayList<>();
        for (int undone = 0; undone < times; undone++) {
            told.add(day.undo());
        }
        told.add(day.count(14));
        told.addAll(state(day));
        return told;
    }

    /** The text can't be asked for, but what it reads as can. */
    private static List<Integer> textOf(PaperStations day) {
        List<Integer> told = new ArrayList<>();
        told.add(day.count(15));
        told.add(day.readArrivals(0, day.count(0)));
        for (int hour = 0; hour <= 14; hour++) {
            told.add(day.arrivals(0, hour));
        }
        return told;
    }
}
