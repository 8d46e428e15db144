import java.util.LinkedHashMap;
import java.util.Map;
import java.util.function.Supplier;
import java.util.function.ToIntFunction;

/** The boundary cases of the terms HISTORY and ERRORS and of promises 17 to 19. */
final class HistoryBoundaries {
    private final Sentences doc;

    HistoryBoundaries(Sentences doc) {
        this.doc = doc;
    }

    void run() {
        doc.under("HISTORY");
        doc.test("A history of at most 4 states is kept; when one more is recorded, the oldest one is dropped; undo()"
            + " removes and restores the latest one.", this::historyOfFour);
        doc.test("Each call of a method that is described as an act, and returns no error and not NONE, records the"
            + " state that was before it.", this::actsRecord);
        doc.test("There is one snapshot, empty at first.", this::oneSnapshot);
        doc.test("A state is everything but the text, the history and the snapshot.", this::whatAStateIs);
        runErrors();
        doc.under("Promise 17: undo");
        doc.test("Removes and restores the latest state of the history.", this::undoes);
        doc.test("Returns the number of states that are left; NONE if the history is empty.", this::undoReturns);
        doc.under("Promise 18: keep");
        doc.test("Takes a snapshot of the state, in place of the one that was.", this::keeps);
        doc.test("Returns the hour.", this::keepReturns);
        doc.under("Promise 19: restore");
        doc.test("Restores the state of the snapshot, which stays.", this::restores);
        doc.test("This is an act.", this::restoreIsAct);
        doc.test("Returns the hour then; NONE if there is no snapshot.", this::restoreReturns);
    }

    private void runErrors() {
        doc.under("ERRORS");
        doc.test("Errors are reported by the constants below.", this::errorsAreConstants);
        doc.test("Where several errors can apply, the order of the @return line is the order of the checks.",
            this::orderOfChecks);
        doc.test("NONE is no error; it is returned only if no error applies.", this::noneIsLast);
        doc.test("A call that returns an error or NONE changes nothing.", this::refusedCallsChangeNothing);
        doc.test("The constants: `UNKNOWN = -1`: There is no such station or clerk.",
            () -> doc.is("UNKNOWN", PaperStations.UNKNOWN, -1));
        doc.test("`BAD_VALUE = -2`: Another argument is out of range.",
            () -> doc.is("BAD_VALUE", PaperStations.BAD_VALUE, -2));
        doc.test("`FULL = -3`: There is no more room.", () -> doc.is("FULL", PaperStations.FULL, -3));
        doc.test("`NOT_POSSIBLE = -4`: This is not possible.",
            () -> doc.is("NOT_POSSIBLE", PaperStations.NOT_POSSIBLE, -4));
        doc.test("`NONE = -5`: There is no such thing; not an error.", () -> doc.is("NONE", PaperStations.NONE, -5));
    }

    /** At the hour 15, with all that a call may touch: papers in each place, clerks of each kind, all full but two. */
    private static PaperStations laden() {
        PaperStations day = new PaperStations();
        for (int clerk = 0; clerk < 12; clerk++) {
            day.addClerk(10, 6);
        }
        for (int station = 0; station < 4; station++) {
            day.addStation();
            day.setArrivals(station, 12, 20);
            day.supply(station, 30);
        }
        day.pass(12);
        for (int station = 0; station < 4; station++) {
            day.assign(station, station);
        }
        day.assign(4, 3);
        day.pass(2);
        Days.write(day, "500,0");
        day.keep();
        day.setArrivals(3, 14, 21);
        day.relieve(0);
        day.pass(1);
        day.carryOff(0, 4);
        day.find(0, 1);
        day.spoil(1, 2);
        day.countBox(0, 16);
        return day;
    }

    private void historyOfFour() {
        for (int acts = 0; acts <= 9; acts++) {
            PaperStations day = new PaperStations();
            for (int act = 0; act < acts; act++) {
                day.addClerk(act + 1, 1);
            }
            int kept = Math.min(acts, 4);
            doc.is("count(14) behind " + acts + " acts", day.count(14), kept);
            for (int left = kept - 1; left >= 0; left--) {
                doc.is("undo() behind " + acts + " acts", day.undo(), left);
                doc.is("count(2): the latest one is restored", day.count(2), acts - kept + left);
                doc.is("count(14): and removed", day.count(14), left);
            }
            doc.is("undo() of an empty history behind " + acts + " acts", day.undo(), Days.NONE);
            doc.is("count(2) stays", day.count(2), acts - kept);
            doc.is("addClerk(60, 6) behind it", day.addClerk(60, 6), acts - kept);
            doc.is("count(14) behind it", day.count(14), 1);
        }
        PaperStations mixed = Days.withStations(1);
        for (int papers = 1; papers <= 20; papers++) {
            mixed.supply(0, 1);
            mixed.supply(0, 1);
            mixed.undo();
        }
        doc.is("count(14) with undos between: each second supply drops one", mixed.count(14), 3);
        for (int left = 2; left >= 0; left--) {
            doc.is("undo()", mixed.undo(), left);
            doc.is("papers(0, 0)", mixed.papers(0, 0), 17 + left);
        }
    }

    private static Map<String, ToIntFunction<PaperStations>> acts() {
        Map<String, ToIntFunction<PaperStations>> acts = new LinkedHashMap<>();
        acts.put("addStation()", PaperStations::addStation);
        acts.put("setArrivals(0, 14, 5)", day -> day.setArrivals(0, 14, 5));
        acts.put("assign(5, 0)", day -> day.assign(5, 0));
        acts.put("relieve(1)", day -> day.relieve(1));
        acts.put("pass(1)", day -> day.pass(1));
        acts.put("supply(0, 1)", day -> day.supply(0, 1));
        acts.put("movePapers(0, 1, 1)", day -> day.movePapers(0, 1, 1));
        acts.put("spoil(0, 1)", day -> day.spoil(0, 1));
        acts.put("carryOff(0, 1)", day -> day.carryOff(0, 1));
        acts.put("find(0, 1)", day -> day.find(0, 1));
        acts.put("countBox(0, 15)", day -> day.countBox(0, 15));
        acts.put("readArrivals(0, 14)", HistoryBoundaries::readOne);
        acts.put("restore()", PaperStations::restore);
        return acts;
    }

    /** Those acts that need an hour before 15 are tried there. */
    private static Supplier<PaperStations> dayFor(String act) {
        boolean early = act.startsWith("setArrivals") || act.startsWith("readArrivals");
        return early ? Told.then(HistoryBoundaries::laden, PaperStations::restore) : HistoryBoundaries::laden;
    }

    private void actsRecord() {
        acts().forEach((call, act) -> doc.isAct(call, dayFor(call), act));
        doc.isAct("addClerk(1, 1)", () -> Days.begun(1, 11), day -> day.addClerk(1, 1));
        doc.isNoAct("type('1')", HistoryBoundaries::laden, day -> day.type('1'));
        doc.isNoAct("clearText()", HistoryBoundaries::laden, PaperStations::clearText);
        doc.isNoAct("keep()", HistoryBoundaries::laden, PaperStations::keep);
        doc.isNoAct("queueIn(0, 3)", HistoryBoundaries::laden, day -> day.queueIn(0, 3));
        doc.isNoAct("lacks(3)", HistoryBoundaries::laden, day -> day.lacks(3));
        doc.isNoAct("all that is told", () -> Days.begun(2, 2), day -> Told.state(day).size());
        PaperStations day = laden();
        day.undo();
        doc.is("undo() is no act: undo() behind it", day.undo(), 2);
        PaperStations first = new PaperStations();
        doc.is("keep() with an empty history", first.keep(), 0);
        doc.is("count(14)", first.count(14), 0);
        doc.is("restore() with an empty history", first.restore(), 0);
        doc.is("count(14)", first.count(14), 1);
        doc.is("addStation()", first.addStation(), 0);
        doc.is("count(14)", first.count(14), 2);
    }

    /** The text of a laden day has two numbers: too many for the hour 14. */
    private static int readOne(PaperStations day) {
        Days.write(day, "77");
        return day.readArrivals(0, 14);
    }

    private void oneSnapshot() {
        PaperStations day = new PaperStations();
        doc.is("restore() at first", day.restore(), Days.NONE);
        day.addStation();
        doc.is("restore() behind an act", day.restore(), Days.NONE);
        day.undo();
        doc.is("restore() behind an undo", day.restore(), Days.NONE);
        day.keep();
        day.pass(3);
        day.keep();
        day.pass(4);
        doc.is("the later one is restored", day.restore(), 3);
        doc.is("the earlier one is gone", day.restore(), 3);
    }

    private void whatAStateIs() {
        PaperStations day = laden();
        day.keep();
        change(day);
        day.type('1');
        int length = day.count(15);
        day.restore();
        doc.holds("restore() brings back the whole state", Told.state(day).equals(Told.state(laden())));
        doc.is("restore() leaves the text", day.count(15), length);
        doc.is("restore() leaves the history", day.count(14), 4);
        PaperStations undone = changed();
        undone.addStation();
        undone.keep();
        undone.type('1');
        undone.undo();
        doc.holds("undo() brings back the whole state", Told.state(undone).equals(Told.state(changed())));
        doc.is("undo() leaves the text", undone.count(15), length);
        doc.is("undo() leaves the snapshot", undone.restore(), undone.count(0));
        doc.is("which is of the later state", undone.count(1), 5);
    }

    private static PaperStations changed() {
        PaperStations day = laden();
        change(day);
        return day;
    }

    private static void change(PaperStations day) {
        acts().forEach((call, act) -> {
            if (!call.equals("addStation()") && !call.equals("restore()")) {
                act.applyAsInt(day);
            }
        });
    }

    private void errorsAreConstants() {
        doc.is("UNKNOWN: a station", new PaperStations().lacks(0), PaperStations.UNKNOWN);
        doc.is("UNKNOWN: a clerk", new PaperStations().relieve(0), PaperStations.UNKNOWN);
        doc.is("BAD_VALUE", new PaperStations().pass(0), PaperStations.BAD_VALUE);
        doc.is("FULL", Days.withStations(6).addStation(), PaperStations.FULL);
        doc.is("NOT_POSSIBLE", Days.withStations(1).carryOff(0, 1), PaperStations.NOT_POSSIBLE);
        doc.is("NONE", new PaperStations().undo(), PaperStations.NONE);
    }

    /** Calls on a laden day that answer so. */
    private static Map<String, ToIntFunction<PaperStations>> refused(int error) {
        Map<String, ToIntFunction<PaperStations>> calls = new LinkedHashMap<>();
        switch (error) {
            case Days.UNKNOWN: unknownCalls(calls); break;
            case Days.BAD_VALUE: badValueCalls(calls); break;
            case Days.NOT_POSSIBLE: notPossibleCalls(calls); break;
            case Days.FULL: fullCalls(calls); break;
            default: noneCalls(calls);
        }
        return calls;
    }

    private static void unknownCalls(Map<String, ToIntFunction<PaperStations>> calls) {
        calls.put("setArrivals(4, 99, -1)", day -> day.setArrivals(4, 99, -1));
        calls.put("assign(12, 0)", day -> day.assign(12, 0));
        calls.put("assign(1, 4), the clerk being on duty", day -> day.assign(1, 4));
        calls.put("relieve(12)", day -> day.relieve(12));
        calls.put("supply(4, 0)", day -> day.supply(4, 0));
        calls.put("movePapers(4, 4, 0)", day -> day.movePapers(4, 4, 0));
        calls.put("spoil(4, 0)", day -> day.spoil(4, 0));
        calls.put("carryOff(4, 0)", day -> day.carryOff(4, 0));
        calls.put("find(4, 0)", day -> day.find(4, 0));
        calls.put("countBox(4, -1)", day -> day.countBox(4, -1));
        calls.put("readArrivals(4, 15)", day -> day.readArrivals(4, 15));
        calls.put("station(4, 8)", day -> day.station(4, 8));
        calls.put("papers(4, 9)", day -> day.papers(4, 9));
        calls.put("clerk(12, 7)", day -> day.clerk(12, 7));
        calls.put("arrivals(4, 15)", day -> day.arrivals(4, 15));
        calls.put("queueIn(4, 19)", day -> day.queueIn(4, 19));
        calls.put("lacks(4)", day -> day.lacks(4));
    }

    private static void badValueCalls(Map<String, ToIntFunction<PaperStations>> calls) {
        calls.put("addClerk(0, 7) as the thirteenth", day -> day.addClerk(0, 7));
        calls.put("setArrivals(0, 15, 20)", day -> day.setArrivals(0, 15, 20));
        calls.put("setArrivals(0, 12, 20), what is so already", day -> day.setArrivals(0, 12, 20));
        calls.put("pass(19)", day -> day.pass(19));
        calls.put("supply(0, 10000)", day -> day.supply(0, 10000));
        calls.put("movePapers(0, 0, 9999)", day -> day.movePapers(0, 0, 9999));
        calls.put("spoil(0, 10000)", day -> day.spoil(0, 10000));
        calls.put("carryOff(0, 10000)", day -> day.carryOff(0, 10000));
        calls.put("find(0, 10000)", day -> day.find(0, 10000));
        calls.put("countBox(3, -1) with a queue", day -> day.countBox(3, -1));
        calls.put("readArrivals(0, 14) when it is over", day -> day.readArrivals(0, 14));
        calls.put("station(0, 8)", day -> day.station(0, 8));
        calls.put("papers(0, 9)", day -> day.papers(0, 9));
        calls.put("clerk(0, 7)", day -> day.clerk(0, 7));
        calls.put("arrivals(0, 15)", day -> day.arrivals(0, 15));
        calls.put("free(-1)", day -> day.free(-1));
        calls.put("busiest(-1)", day -> day.busiest(-1));
        calls.put("queueIn(0, 19)", day -> day.queueIn(0, 19));
        calls.put("count(16)", day -> day.count(16));
    }

    private static void notPossibleCalls(Map<String, ToIntFunction<PaperStations>> calls) {
        calls.put("assign(1, 0)", day -> day.assign(1, 0));
        calls.put("pass(4)", day -> day.pass(4));
        calls.put("movePapers(0, 1, 9999)", day -> day.movePapers(0, 1, 9999));
        calls.put("spoil(0, 9999)", day -> day.spoil(0, 9999));
        calls.put("carryOff(0, 9999)", day -> day.carryOff(0, 9999));
        calls.put("find(0, 9999)", day -> day.find(0, 9999));
        calls.put("countBox(3, 0)", day -> day.countBox(3, 0));
        calls.put("queueIn(0, 4)", day -> day.queueIn(0, 4));
    }

    private static void fullCalls(Map<String, ToIntFunction<PaperStations>> calls) {
        calls.put("addClerk(1, 1)", day -> day.addClerk(1, 1));
        calls.put("supply(0, 9999)", day -> day.supply(0, 9999));
    }

    private static void noneCalls(Map<String, ToIntFunction<PaperStations>> calls) {
        calls.put("relieve(0)", day -> day.relieve(0));
        calls.put("free(12)", day -> day.free(12));
        calls.put("busiest(4)", day -> day.busiest(4));
        calls.put("papers(1, 6)", day -> day.papers(1, 6));
        calls.put("papers(1, 7)", day -> day.papers(1, 7));
        calls.put("clerk(0, 2)", day -> day.clerk(0, 2));
        calls.put("clerk(1, 6)", day -> day.clerk(1, 6));
    }

    /** In each of these calls all errors of the line apply that can apply at once. */
    private void orderOfChecks() {
        for (int error : new int[] {Days.UNKNOWN, Days.BAD_VALUE, Days.NOT_POSSIBLE}) {
            refused(error).forEach((call, asked) -> doc.is(call, asked.applyAsInt(laden()), error));
        }
    }

    private void noneIsLast() {
        refused(Days.NONE).forEach((call, asked) -> doc.is(call, asked.applyAsInt(laden()), Days.NONE));
        doc.is("setArrivals(0, 15, 0)", Days.begun(1, 1).setArrivals(0, 15, 0), Days.BAD_VALUE);
        doc.is("setArrivals(1, 0, 0)", Days.begun(1, 1).setArrivals(1, 0, 0), Days.UNKNOWN);
        doc.is("setArrivals(0, 0, 0)", Days.begun(1, 1).setArrivals(0, 0, 0), Days.NONE);
        doc.is("relieve(1)", Days.begun(1, 1).relieve(1), Days.UNKNOWN);
        doc.is("relieve(0)", Days.begun(1, 1).relieve(0), Days.NONE);
        doc.is("clerk(1, 2)", Days.begun(1, 1).clerk(1, 2), Days.UNKNOWN);
        doc.is("papers(1, 6)", Days.begun(1, 1).papers(1, 6), Days.UNKNOWN);
        doc.is("free(-1) with none free", Days.begun(1, 0).free(-1), Days.BAD_VALUE);
        doc.is("free(0) with none free", Days.begun(1, 0).free(0), Days.NONE);
        doc.is("busiest(-1) without stations", new PaperStations().busiest(-1), Days.BAD_VALUE);
        doc.is("busiest(0) without stations", new PaperStations().busiest(0), Days.NONE);
    }

    private void refusedCallsChangeNothing() {
        for (int error = Days.UNKNOWN; error >= Days.NONE; error--) {
            int want = error;
            refused(error).forEach((call, asked) -> doc.refuses(call, want, HistoryBoundaries::laden, asked));
        }
        doc.refuses("addStation()", Days.FULL, () -> Days.begun(6, 2), PaperStations::addStation);
        doc.refuses("undo()", Days.NONE, PaperStations::new, PaperStations::undo);
        doc.refuses("restore()", Days.NONE, () -> Days.afterOneHour(), PaperStations::restore);
        doc.refuses("setArrivals(0, 0, 0)", Days.NONE, () -> Days.begun(1, 1), day -> day.setArrivals(0, 0, 0));
        doc.refuses("readArrivals(0, 14)", Days.FULL, () -> Days.begun(1, 1), day -> day.readArrivals(0, 14));
        doc.refuses("readArrivals(0, 0)", -105, () -> fullText(Days.begun(1, 1)), day -> day.readArrivals(0, 0));
        doc.refuses("type('1')", Days.FULL, () -> fullText(Days.begun(1, 1)), day -> day.type('1'));
    }

    private static PaperStations fullText(PaperStations day) {
        Days.write(day, "1,234" + "5".repeat(55));
        return day;
    }

    private void undoes() {
        PaperStations day = laden();
        day.undo();
        doc.is("the count of the box is undone", day.papers(0, 8), 0);
        doc.is("the spoilt ones are still there", day.papers(1, 2), 2);
        day.undo();
        doc.is("the spoilt ones are undone", day.papers(1, 2), 0);
        day.undo();
        doc.is("the found ones are undone", day.papers(0, 4), 0);
        doc.is("the carried off ones are still there", day.papers(0, 3), 4);
        day.undo();
        doc.is("the carried off ones are undone", day.papers(0, 3), 0);
        doc.is("the hour is that of the oldest one", day.count(0), 15);
        doc.refuses("undo() of an empty history", Days.NONE, HistoryBoundaries::emptied, PaperStations::undo);
    }

    private static PaperStations emptied() {
        PaperStations day = laden();
        for (int left = 3; left >= 0; left--) {
            day.undo();
        }
        return day;
    }

    private void undoReturns() {
        for (int states = 1; states <= 4; states++) {
            PaperStations day = Days.begun(states, 0);
            doc.is("undo() of " + states, day.undo(), states - 1);
        }
        doc.is("undo() of a full history with one state more", Days.begun(5, 0).undo(), 3);
        doc.refuses("NONE: a new object", Days.NONE, PaperStations::new, PaperStations::undo);
        doc.refuses("NONE: all are undone", Days.NONE, HistoryBoundaries::emptied, PaperStations::undo);
        PaperStations again = emptied();
        again.supply(0, 1);
        doc.is("undo() of one behind an empty history", again.undo(), 0);
    }

    private void keeps() {
        PaperStations day = laden();
        day.keep();
        change(day);
        day.restore();
        doc.holds("the snapshot is of the state that was", Told.state(day).equals(Told.state(laden())));
        PaperStations later = laden();
        later.keep();
        change(later);
        later.keep();
        later.supply(2, 7);
        later.restore();
        doc.holds("in place of the one that was", Told.state(later).equals(Told.state(changed())));
        PaperStations empty = new PaperStations();
        empty.keep();
        empty.addStation();
        empty.addClerk(1, 1);
        empty.restore();
        doc.is("a snapshot of no station", empty.count(1), 0);
        doc.is("a snapshot of no clerk", empty.count(2), 0);
    }

    private void keepReturns() {
        PaperStations day = new PaperStations();
        doc.is("keep() at 0", day.keep(), 0);
        for (int hour = 1; hour <= 18; hour++) {
            day.pass(1);
            doc.is("keep() at " + hour, day.keep(), hour);
        }
    }

    private void restores() {
        PaperStations day = laden();
        doc.is("restore()", day.restore(), 14);
        change(day);
        day.restore();
        doc.holds("the snapshot stays",
            Told.state(day).equals(Told.state(Told.then(HistoryBoundaries::laden, PaperStations::restore).get())));
        PaperStations stays = laden();
        stays.restore();
        doc.is("undo() of restore()", stays.undo(), 3);
        doc.is("the snapshot stays behind an undo", stays.restore(), 14);
    }

    private void restoreIsAct() {
        doc.isAct("restore()", HistoryBoundaries::laden, PaperStations::restore);
        doc.isAct("restore() to fewer stations and clerks", () -> Days.begun(3, 2), PaperStations::restore);
        doc.isAct("restore() that makes nothing different", Told.then(() -> Days.begun(1, 1), PaperStations::keep),
            PaperStations::restore);
    }

    private void restoreReturns() {
        for (int hour = 0; hour <= 18; hour++) {
            PaperStations day = new PaperStations();
            if (hour > 0) {
                day.pass(hour);
            }
            day.keep();
            if (hour < 18) {
                day.pass(18 - hour);
            }
            doc.is("the hour then", day.restore(), hour);
            doc.is("count(0)", day.count(0), hour);
        }
        doc.refuses("NONE: a new object", Days.NONE, PaperStations::new, PaperStations::restore);
        doc.refuses("NONE: behind acts", Days.NONE, Days::afterOneHour, PaperStations::restore);
        doc.refuses("NONE: a full history is no snapshot", Days.NONE, () -> Days.withStations(6), PaperStations::restore);
    }
}
