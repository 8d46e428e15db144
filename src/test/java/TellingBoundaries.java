import java.util.function.Supplier;

/** The boundary cases of promises 20 to 28. */
final class TellingBoundaries {
    private static final String STATION = "- `station`: a station";
    private static final String NUMBER = "Returns the number; UNKNOWN; BAD_VALUE.";

    private final Sentences doc;

    TellingBoundaries(Sentences doc) {
        this.doc = doc;
    }

    void run() {
        runNumbers();
        doc.under("Promise 23: arrivals");
        doc.test(STATION, () -> stations((day, station) -> day.arrivals(station, 0)));
        doc.test("- `hour`: 0 to 14", this::arrivalsHour);
        doc.test("Returns the arrivals that are told; UNKNOWN; BAD_VALUE.", this::arrivalsReturns);
        doc.under("Promise 24: free");
        doc.test("- `place`: a place among the free clerks in their order, from 0", this::freePlace);
        doc.test("Returns the clerk; BAD_VALUE if place is negative; NONE if there are not so many.", this::freeReturns);
        doc.under("Promise 25: busiest");
        doc.test("- `place`: a place among all stations by their queues, from 0: the longest queue first, of several"
            + " the lowest number first", this::busiestPlace);
        doc.test("Returns the station; BAD_VALUE if place is negative; NONE if there are not so many.",
            this::busiestReturns);
        runForecasts();
        doc.under("Promise 28: count");
        doc.test("- `what`: 0 for the hour, 1 for stations, 2 for clerks, 3 for clerks on duty, 4 for free ones, 5 for"
            + " people in all queues, 6 for people served, 7 for papers in all stocks, 8 for papers issued, 9 for"
            + " papers in all boxes, 10 for stations whose latest count is what is in the box, 11 for those whose"
            + " count is not, 12 for hours waited in all, 13 for hours worked in all, 14 for the states in the"
            + " history, 15 for the length of the text", this::countWhat);
        doc.test("Returns the number; BAD_VALUE.", this::countReturns);
    }

    private void runNumbers() {
        doc.under("Promise 20: station");
        doc.test(STATION, () -> stations((day, station) -> day.station(station, 0)));
        doc.test("- `what`: 0 for its queue, 1 for the longest queue at the end of an hour so far, 2 for the people"
            + " served so far, 3 for the hours that people have waited in all, 4 for the clerks on duty, 5 for the"
            + " people whom these serve an hour together, 6 for all arrivals that are told, 7 for the hours that it"
            + " would take to serve the queue with these clerks (rounded up, papers left aside; NONE if there is a"
            + " queue and no clerk)", this::stationWhat);
        doc.test(NUMBER, this::stationReturns);
        doc.under("Promise 21: papers");
        doc.test(STATION, () -> stations((day, station) -> day.papers(station, 0)));
        doc.test("- `what`: 0 for the stock, 1 for papers issued, 2 for papers spoilt, 3 for those that are carried off"
            + " still, 4 for those found, 5 for those in the box, 6 for the latest count of the box (NONE if there is"
            + " none), 7 for that count less the papers in the box, plus 100000 (NONE if there is none), 8 for how"
            + " often it was counted", this::papersWhat);
        doc.test(NUMBER, this::papersReturns);
        doc.under("Promise 22: clerk");
        doc.test("- `clerk`: a clerk", this::clerkClerk);
        doc.test("- `what`: 0 for the people that they serve an hour, 1 for the longest run, 2 for the station at which"
            + " they are on duty (NONE if they are not), 3 for their run, 4 for the hours that they have worked, 5 for"
            + " whether they rest (1, otherwise 0), 6 for their place among the free clerks, from 0 (NONE if they are"
            + " not free)", this::clerkWhat);
        doc.test(NUMBER, this::clerkReturns);
    }

    private void runForecasts() {
        doc.under("Promise 26: queueIn");
        doc.test("Tells the queue that a station would have behind some hours, if they passed now, and nothing else"
            + " happened.", this::tellsQueueIn);
        doc.test(STATION, () -> stations((day, station) -> day.queueIn(station, 0)));
        doc.test("- `hours`: 0 to 18", this::queueInHours);
        doc.test("Returns the people; UNKNOWN; BAD_VALUE; NOT_POSSIBLE if the hour would become more than 18.",
            this::queueInReturns);
        doc.under("Promise 27: lacks");
        doc.test("Tells how many papers a station would lack until the hour 18, if hours passed now, nothing else"
            + " happened, and its stock was great enough for all who are served.", this::tellsLacks);
        doc.test(STATION, () -> stations(PaperStations::lacks));
        doc.test("Returns the papers, 0 if its stock is enough; UNKNOWN.", this::lacksReturns);
    }

    private void stations(Sentences.Asked asked) {
        doc.is("the first station", asked.of(Days.begun(6, 1), 0), 0);
        doc.is("the last station", asked.of(Days.begun(6, 1), 5), 0);
        doc.refusesEach("station", Days.UNKNOWN, () -> Days.begun(6, 1), asked, Sentences.outside(0, 5));
        doc.refusesEach("station, with two", Days.UNKNOWN, () -> Days.begun(2, 1), asked, Sentences.outside(0, 1));
        doc.refusesEach("station, without any", Days.UNKNOWN, () -> Days.begun(0, 1), asked, -1, 0, 5);
    }

    private static int[] stationOf(PaperStations day, int station) {
        int[] told = new int[8];
        for (int what = 0; what < told.length; what++) {
            told[what] = day.station(station, what);
        }
        return told;
    }

    private static int[] papersOf(PaperStations day, int station) {
        int[] told = new int[9];
        for (int what = 0; what < told.length; what++) {
            told[what] = day.papers(station, what);
        }
        return told;
    }

    private static int[] clerkOf(PaperStations day, int clerk) {
        int[] told = new int[7];
        for (int what = 0; what < told.length; what++) {
            told[what] = day.clerk(clerk, what);
        }
        return told;
    }

    /** A station with so long a queue and clerks who serve so many an hour. */
    private static PaperStations queueWith(int people, int... serves) {
        PaperStations day = Days.withStations(1);
        day.setArrivals(0, 0, people);
        for (int clerk = 0; clerk < serves.length; clerk++) {
            day.addClerk(serves[clerk], 6);
        }
        day.pass(1);
        for (int clerk = 0; clerk < serves.length; clerk++) {
            day.assign(clerk, 0);
        }
        return day;
    }

    private void stationWhat() {
        PaperStations day = Days.begun(2, 3);
        doc.areNumbers("of a new station", stationOf(day, 1), 0, 0, 0, 0, 0, 0, 0, 0);
        day.setArrivals(1, 0, 35);
        day.setArrivals(1, 14, 500);
        day.supply(1, 99);
        day.assign(0, 1);
        doc.areNumbers("ahead of an hour", stationOf(day, 1), 0, 0, 0, 0, 1, 10, 535, 0);
        day.assign(2, 1);
        day.pass(1);
        doc.areNumbers("behind an hour", stationOf(day, 1), 15, 15, 20, 15, 2, 20, 535, 1);
        day.relieve(0);
        doc.areNumbers("with one clerk", stationOf(day, 1), 15, 15, 20, 15, 1, 10, 535, 2);
        day.relieve(2);
        doc.areNumbers("with none", stationOf(day, 1), 15, 15, 20, 15, 0, 0, 535, Days.NONE);
        day.assign(1, 1);
        day.pass(1);
        doc.areNumbers("the longest queue stays", stationOf(day, 1), 5, 15, 30, 20, 1, 10, 535, 1);
        day.pass(1);
        doc.areNumbers("the queue is empty", stationOf(day, 1), 0, 15, 35, 20, 1, 10, 535, 0);
        day.relieve(1);
        doc.areNumbers("no queue and no clerk", stationOf(day, 1), 0, 15, 35, 20, 0, 0, 535, 0);
        doc.areNumbers("of the other station", stationOf(day, 0), 0, 0, 0, 0, 0, 0, 0, 0);
        hoursForTheQueue();
        mostArrivals();
    }

    private void hoursForTheQueue() {
        int[][] cases = {{1, 1, 1}, {1, 60, 1}, {59, 60, 1}, {60, 60, 1}, {61, 60, 2}, {119, 60, 2}, {120, 60, 2},
            {121, 60, 3}, {500, 1, 500}, {500, 60, 9}};
        for (int[] one : cases) {
            doc.is("a queue of " + one[0] + " by " + one[1], queueWith(one[0], one[1]).station(0, 7), one[2]);
        }
        doc.is("a queue of 500 by 720", queueWith(500, 60, 60, 60, 60, 60, 60, 60, 60, 60, 60, 60, 60).station(0, 7), 1);
        doc.is("a queue of 1 and no clerk", queueWith(1).station(0, 7), Days.NONE);
        doc.is("no queue and no clerk", queueWith(0).station(0, 7), 0);
        doc.is("no queue and a clerk", queueWith(0, 1).station(0, 7), 0);
    }

    private void mostArrivals() {
        PaperStations day = Days.withStations(1);
        for (int hour = 0; hour <= 14; hour++) {
            day.setArrivals(0, hour, 500);
        }
        doc.is("the most arrivals: station(0, 6)", day.station(0, 6), 7500);
        day.pass(18);
        doc.is("hours that are over are told too: station(0, 6)", day.station(0, 6), 7500);
        doc.is("the longest queue: station(0, 1)", day.station(0, 1), 7500);
    }

    private void stationReturns() {
        Supplier<PaperStations> made = () -> Days.begun(2, 1);
        doc.refuses("UNKNOWN", Days.UNKNOWN, made, day -> day.station(2, 7));
        doc.refusesEach("BAD_VALUE: station(0, what)", Days.BAD_VALUE, made, (day, what) -> day.station(0, what),
            Sentences.outside(0, 7));
        doc.is("the first: station(0, 0)", made.get().station(0, 0), 0);
        doc.is("the last: station(0, 7)", made.get().station(0, 7), 0);
        doc.refuses("UNKNOWN ahead of BAD_VALUE", Days.UNKNOWN, made, day -> day.station(2, 8));
        doc.refuses("UNKNOWN ahead of BAD_VALUE", Days.UNKNOWN, made, day -> day.station(-1, -1));
        doc.refuses("NONE: station(0, 7)", Days.NONE, () -> queueWith(1), day -> day.station(0, 7));
    }

    private void papersWhat() {
        PaperStations day = Days.afterOneHour();
        day.spoil(0, 2);
        day.carryOff(0, 6);
        day.find(0, 1);
        doc.areNumbers("not counted", papersOf(day, 0), 68, 32, 2, 5, 1, 24, Days.NONE, Days.NONE, 0);
        day.pass(14);
        doc.areNumbers("ahead of the count", papersOf(day, 0), 58, 42, 2, 5, 1, 34, Days.NONE, Days.NONE, 0);
        day.countBox(0, 0);
        doc.areNumbers("counted as empty", papersOf(day, 0), 58, 42, 2, 5, 1, 34, 0, 99966, 1);
        day.countBox(0, 99999);
        doc.areNumbers("counted as the most", papersOf(day, 0), 58, 42, 2, 5, 1, 34, 99999, 199965, 2);
        day.countBox(0, 34);
        doc.areNumbers("counted as it is", papersOf(day, 0), 58, 42, 2, 5, 1, 34, 34, 100000, 3);
        day.carryOff(0, 34);
        doc.areNumbers("an empty box behind the count", papersOf(day, 0), 58, 42, 2, 39, 1, 0, 34, 100034, 3);
        doc.areNumbers("of the other station", papersOf(day, 1), 0, 0, 0, 0, 0, 0, Days.NONE, Days.NONE, 0);
        day.countBox(1, 0);
        doc.areNumbers("an empty box that is counted", papersOf(day, 1), 0, 0, 0, 0, 0, 0, 0, 100000, 1);
    }

    private void papersReturns() {
        Supplier<PaperStations> made = () -> Days.begun(2, 1);
        doc.refuses("UNKNOWN", Days.UNKNOWN, made, day -> day.papers(2, 8));
        doc.refusesEach("BAD_VALUE: papers(0, what)", Days.BAD_VALUE, made, (day, what) -> day.papers(0, what),
            Sentences.outside(0, 8));
        doc.is("the first: papers(0, 0)", made.get().papers(0, 0), 0);
        doc.is("the last: papers(0, 8)", made.get().papers(0, 8), 0);
        doc.refuses("UNKNOWN ahead of BAD_VALUE", Days.UNKNOWN, made, day -> day.papers(2, 9));
        doc.refuses("UNKNOWN ahead of BAD_VALUE", Days.UNKNOWN, made, day -> day.papers(-1, -1));
        doc.refuses("UNKNOWN, not NONE", Days.UNKNOWN, made, day -> day.papers(2, 6));
        doc.refuses("NONE: papers(0, 6)", Days.NONE, made, day -> day.papers(0, 6));
        doc.refuses("NONE: papers(0, 7)", Days.NONE, made, day -> day.papers(0, 7));
    }

    private void clerkClerk() {
        doc.is("the first clerk", Days.begun(1, 12).clerk(0, 6), 0);
        doc.is("the last clerk", Days.begun(1, 12).clerk(11, 6), 11);
        doc.refusesEach("clerk(clerk, 0)", Days.UNKNOWN, () -> Days.begun(1, 12), (day, clerk) -> day.clerk(clerk, 0),
            Sentences.outside(0, 11));
        doc.refusesEach("clerk(clerk, 0), with two", Days.UNKNOWN, () -> Days.begun(1, 2),
            (day, clerk) -> day.clerk(clerk, 0), Sentences.outside(0, 1));
        doc.refusesEach("clerk(clerk, 0), without any", Days.UNKNOWN, () -> Days.begun(1, 0),
            (day, clerk) -> day.clerk(clerk, 0), -1, 0, 11);
    }

    private void clerkWhat() {
        PaperStations day = Days.withStations(6);
        day.addClerk(60, 2);
        day.addClerk(1, 6);
        doc.areNumbers("free", clerkOf(day, 0), 60, 2, Days.NONE, 0, 0, 0, 0);
        day.assign(0, 5);
        doc.areNumbers("on duty", clerkOf(day, 0), 60, 2, 5, 0, 0, 0, Days.NONE);
        doc.areNumbers("the other one", clerkOf(day, 1), 1, 6, Days.NONE, 0, 0, 0, 0);
        day.pass(2);
        doc.areNumbers("with the longest run", clerkOf(day, 0), 60, 2, 5, 2, 2, 0, Days.NONE);
        day.pass(1);
        doc.areNumbers("left", clerkOf(day, 0), 60, 2, Days.NONE, 0, 2, 1, Days.NONE);
        doc.areNumbers("the reliever", clerkOf(day, 1), 1, 6, 5, 1, 1, 0, Days.NONE);
        day.pass(1);
        doc.areNumbers("rested", clerkOf(day, 0), 60, 2, Days.NONE, 0, 2, 0, 0);
        day.relieve(1);
        doc.areNumbers("relieved", clerkOf(day, 1), 1, 6, Days.NONE, 0, 2, 1, Days.NONE);
        day.assign(0, 0);
        doc.areNumbers("on duty at the first station", clerkOf(day, 0), 60, 2, 0, 0, 2, 0, Days.NONE);
        day.pass(1);
        doc.areNumbers("the hours worked go on", clerkOf(day, 0), 60, 2, 0, 1, 3, 0, Days.NONE);
        doc.areNumbers("alone among the free", clerkOf(day, 1), 1, 6, Days.NONE, 0, 2, 0, 0);
    }

    private void clerkReturns() {
        Supplier<PaperStations> made = () -> Days.begun(1, 2);
        doc.refuses("UNKNOWN", Days.UNKNOWN, made, day -> day.clerk(2, 6));
        doc.refusesEach("BAD_VALUE: clerk(0, what)", Days.BAD_VALUE, made, (day, what) -> day.clerk(0, what),
            Sentences.outside(0, 6));
        doc.is("the first: clerk(1, 0)", made.get().clerk(1, 0), 10);
        doc.is("the last: clerk(1, 6)", made.get().clerk(1, 6), 1);
        doc.refuses("UNKNOWN ahead of BAD_VALUE", Days.UNKNOWN, made, day -> day.clerk(2, 7));
        doc.refuses("UNKNOWN ahead of BAD_VALUE", Days.UNKNOWN, made, day -> day.clerk(-1, -1));
        doc.refuses("UNKNOWN, not NONE", Days.UNKNOWN, made, day -> day.clerk(2, 2));
        doc.refuses("NONE: clerk(0, 2)", Days.NONE, made, day -> day.clerk(0, 2));
        doc.refuses("NONE: clerk(0, 6)", Days.NONE, Told.then(made, day -> day.assign(0, 0)), day -> day.clerk(0, 6));
    }

    private void arrivalsHour() {
        PaperStations day = Days.begun(2, 0);
        day.setArrivals(1, 0, 500);
        day.setArrivals(1, 14, 1);
        day.pass(18);
        doc.is("arrivals(1, 0) when it is over", day.arrivals(1, 0), 500);
        doc.is("arrivals(1, 1)", day.arrivals(1, 1), 0);
        doc.is("arrivals(1, 13)", day.arrivals(1, 13), 0);
        doc.is("arrivals(1, 14)", day.arrivals(1, 14), 1);
        doc.refusesEach("arrivals(1, hour)", Days.BAD_VALUE, () -> Days.begun(2, 0), (x, hour) -> x.arrivals(1, hour),
            Sentences.outside(0, 14));
    }

    private void arrivalsReturns() {
        PaperStations day = Days.begun(1, 0);
        doc.is("told at first", day.arrivals(0, 14), 0);
        day.setArrivals(0, 14, 500);
        doc.is("told", day.arrivals(0, 14), 500);
        day.setArrivals(0, 14, 499);
        doc.is("told last", day.arrivals(0, 14), 499);
        doc.refuses("UNKNOWN", Days.UNKNOWN, () -> Days.begun(1, 0), x -> x.arrivals(1, 14));
        doc.refuses("BAD_VALUE", Days.BAD_VALUE, () -> Days.begun(1, 0), x -> x.arrivals(0, 15));
        doc.refuses("UNKNOWN ahead of BAD_VALUE", Days.UNKNOWN, () -> Days.begun(1, 0), x -> x.arrivals(1, 15));
        doc.refuses("UNKNOWN ahead of BAD_VALUE", Days.UNKNOWN, () -> Days.begun(1, 0), x -> x.arrivals(-1, -1));
    }

    private void freePlace() {
        PaperStations day = Days.begun(1, 12);
        for (int place = 0; place < 12; place++) {
            doc.is("all are free: free(" + place + ")", day.free(place), place);
        }
        day.assign(0, 0);
        doc.is("the first one is on duty: free(0)", day.free(0), 1);
        doc.is("the last place: free(10)", day.free(10), 11);
        day.assign(11, 0);
        doc.is("the last one is on duty: free(9)", day.free(9), 10);
        day.pass(1);
        day.relieve(0);
        doc.is("one rests: free(0)", day.free(0), 1);
        day.pass(1);
        doc.is("who has worked comes last: free(10)", day.free(10), 0);
        doc.is("free(0)", day.free(0), 1);
    }

    private void freeReturns() {
        Supplier<PaperStations> one = () -> Days.begun(1, 1);
        doc.is("the clerk", one.get().free(0), 0);
        doc.refusesEach("BAD_VALUE: free(place)", Days.BAD_VALUE, one, PaperStations::free, -1, Integer.MIN_VALUE);
        doc.refusesEach("NONE: free(place)", Days.NONE, one, PaperStations::free, 1, 2, 12, Integer.MAX_VALUE);
        doc.refusesEach("NONE with twelve", Days.NONE, () -> Days.begun(1, 12), PaperStations::free, 12, 13);
        doc.refuses("NONE: the only one is on duty", Days.NONE, Told.then(one, day -> day.assign(0, 0)), x -> x.free(0));
        doc.refuses("NONE without clerks", Days.NONE, () -> Days.begun(1, 0), day -> day.free(0));
        doc.refuses("BAD_VALUE ahead of NONE", Days.BAD_VALUE, () -> Days.begun(1, 0), day -> day.free(-1));
    }

    private void busiestPlace() {
        int[][] queues = {{0, 0, 0, 0, 0, 0}, {1, 2, 3, 4, 5, 500}, {6, 5, 4, 3, 2, 1}, {3, 3, 3, 4, 3, 2},
            {0, 7, 0, 7, 0, 7}, {499, 500, 499, 500, 0, 1}};
        int[][] order = {{0, 1, 2, 3, 4, 5}, {5, 4, 3, 2, 1, 0}, {0, 1, 2, 3, 4, 5}, {3, 0, 1, 2, 4, 5},
            {1, 3, 5, 0, 2, 4}, {1, 3, 0, 2, 5, 4}};
        for (int one = 0; one < queues.length; one++) {
            PaperStations day = Days.withStations(6);
            for (int station = 0; station < 6; station++) {
                day.setArrivals(station, 0, queues[one][station]);
            }
            day.pass(1);
            for (int place = 0; place < 6; place++) {
                doc.is("busiest(" + place + ") of case " + one, day.busiest(place), order[one][place]);
            }
        }
        PaperStations early = Days.withStations(2);
        early.setArrivals(1, 0, 500);
        doc.is("those who are to arrive are no queue: busiest(0)", early.busiest(0), 0);
    }

    private void busiestReturns() {
        Supplier<PaperStations> one = () -> Days.begun(1, 1);
        doc.is("the station", one.get().busiest(0), 0);
        doc.refusesEach("BAD_VALUE: busiest(place)", Days.BAD_VALUE, one, PaperStations::busiest, -1, Integer.MIN_VALUE);
        doc.refusesEach("NONE: busiest(place)", Days.NONE, one, PaperStations::busiest, 1, 2, 6, Integer.MAX_VALUE);
        doc.is("the last of six", Days.begun(6, 1).busiest(5), 5);
        doc.refusesEach("NONE with six", Days.NONE, () -> Days.begun(6, 1), PaperStations::busiest, 6, 7);
        doc.refuses("NONE without stations", Days.NONE, () -> Days.begun(0, 1), day -> day.busiest(0));
        doc.refuses("BAD_VALUE ahead of NONE", Days.BAD_VALUE, () -> Days.begun(0, 1), day -> day.busiest(-1));
    }

    /** People come in the first, some middle and the last hour; three clerks of different runs, and few papers. */
    private static PaperStations forecastDay() {
        PaperStations day = Days.begun(2, 0);
        day.addClerk(20, 2);
        day.addClerk(5, 6);
        day.addClerk(9, 1);
        day.setArrivals(0, 0, 50);
        day.setArrivals(0, 7, 30);
        day.setArrivals(0, 14, 40);
        day.setArrivals(1, 1, 10);
        day.supply(0, 70);
        day.assign(0, 0);
        return day;
    }

    private void tellsQueueIn() {
        for (int hours = 0; hours <= 18; hours++) {
            PaperStations passed = forecastDay();
            if (hours > 0) {
                passed.pass(hours);
            }
            doc.is("queueIn(0, " + hours + ")", forecastDay().queueIn(0, hours), passed.station(0, 0));
            doc.is("queueIn(1, " + hours + ")", forecastDay().queueIn(1, hours), passed.station(1, 0));
            doc.is("queueIn(0, 18 - hour) behind " + hours, passed.queueIn(0, 18 - hours), forecastDay().queueIn(0, 18));
        }
        doc.refuses("nothing happens: queueIn(0, 18)", 50 + 30 + 40 - 70, TellingBoundaries::forecastDay,
            day -> day.queueIn(0, 18));
    }

    private void queueInHours() {
        doc.is("queueIn(0, 0)", queueWith(7).queueIn(0, 0), 7);
        doc.is("queueIn(0, 1)", queueWith(7).queueIn(0, 1), 7);
        doc.is("queueIn(0, 17)", queueWith(7).queueIn(0, 17), 7);
        doc.is("queueIn(0, 18)", Days.begun(1, 1).queueIn(0, 18), 0);
        doc.refusesEach("queueIn(0, hours)", Days.BAD_VALUE, () -> Days.begun(1, 1), (x, hours) -> x.queueIn(0, hours),
            Sentences.outside(0, 18));
    }

    private void queueInReturns() {
        doc.is("the people: none", queueWith(0).queueIn(0, 17), 0);
        doc.is("the people: one", queueWith(1).queueIn(0, 17), 1);
        for (int hour = 1; hour <= 18; hour++) {
            int present = hour;
            Supplier<PaperStations> made = Told.then(() -> Days.begun(1, 1), day -> day.pass(present));
            doc.is("to 18 from " + hour, made.get().queueIn(0, 18 - hour), 0);
            doc.is("to 19 from " + hour, made.get().queueIn(0, 19 - hour), Days.NOT_POSSIBLE);
        }
        Supplier<PaperStations> made = () -> queueWith(7);
        Supplier<PaperStations> late = Told.then(made, day -> day.pass(17));
        doc.refuses("UNKNOWN", Days.UNKNOWN, made, day -> day.queueIn(1, 0));
        doc.refuses("BAD_VALUE", Days.BAD_VALUE, made, day -> day.queueIn(0, -1));
        doc.refuses("NOT_POSSIBLE: to 19 from 1", Days.NOT_POSSIBLE, made, day -> day.queueIn(0, 18));
        doc.refuses("NOT_POSSIBLE: to 19 from 18", Days.NOT_POSSIBLE, late, day -> day.queueIn(0, 1));
        doc.is("queueIn(0, 0) at 18", late.get().queueIn(0, 0), 7);
        doc.refuses("UNKNOWN ahead of BAD_VALUE", Days.UNKNOWN, made, day -> day.queueIn(-1, 19));
        doc.refuses("UNKNOWN ahead of NOT_POSSIBLE", Days.UNKNOWN, made, day -> day.queueIn(1, 18));
        doc.refuses("BAD_VALUE ahead of NOT_POSSIBLE", Days.BAD_VALUE, late, day -> day.queueIn(0, 19));
        doc.refuses("BAD_VALUE at 18", Days.BAD_VALUE, late, day -> day.queueIn(0, -1));
    }

    private void tellsLacks() {
        PaperStations enough = forecastDay();
        enough.supply(0, 5000);
        int served = enough.pass(18);
        doc.is("those whom the clerks would serve", forecastDay().lacks(0), Math.max(0, served - 70));
        doc.refuses("nothing happens: lacks(0)", served - 70, TellingBoundaries::forecastDay, day -> day.lacks(0));
        PaperStations last = Days.withStations(1);
        last.setArrivals(0, 14, 500);
        last.addClerk(60, 6);
        last.pass(14);
        last.assign(0, 0);
        doc.is("until the hour 18, not beyond", last.lacks(0), 240);
        last.pass(3);
        doc.is("at 17", last.lacks(0), 60);
        last.pass(1);
        doc.is("at 18", last.lacks(0), 0);
        PaperStations most = Days.withStations(1);
        for (int hour = 0; hour <= 14; hour++) {
            most.setArrivals(0, hour, 500);
        }
        for (int clerk = 0; clerk < 12; clerk++) {
            most.addClerk(60, 6);
            most.assign(clerk, 0);
        }
        doc.is("the most people", most.lacks(0), 500 * 6);
    }

    private void lacksReturns() {
        doc.is("no stock", queueWith(9, 9).lacks(0), 9);
        for (int stock = 1; stock <= 11; stock++) {
            PaperStations day = queueWith(9, 9);
            day.supply(0, stock);
            doc.is("with a stock of " + stock, day.lacks(0), Math.max(0, 9 - stock));
        }
        PaperStations full = queueWith(9, 9);
        full.supply(0, 9999);
        doc.is("with the greatest stock", full.lacks(0), 0);
        doc.is("a queue and no clerk", queueWith(9).lacks(0), 0);
        doc.is("a clerk and no queue", queueWith(0, 9).lacks(0), 0);
        PaperStations served = Days.afterOneHour();
        served.movePapers(0, 1, 61);
        doc.is("who are served already need none", served.lacks(0), 1);
        doc.refusesEach("UNKNOWN: lacks(station)", Days.UNKNOWN, () -> Days.begun(2, 1), PaperStations::lacks,
            Sentences.outside(0, 1));
    }

    private void countWhat() {
        PaperStations day = Days.withStations(6);
        for (int clerk = 0; clerk < 12; clerk++) {
            day.addClerk(2, 6);
        }
        int[] empty = {0, 6, 12, 0, 12, 0, 0, 0, 0, 0, 0, 0, 0, 0, 4, 0};
        doc.areNumbers("before anything happens", countsOf(day), empty);
        for (int station = 0; station < 6; station++) {
            day.setArrivals(station, 0, 10 * (station + 1));
            day.supply(station, 9999);
            day.assign(station, station);
            day.assign(11 - station, station);
        }
        day.pass(1);
        doc.areNumbers("all are on duty", countsOf(day), 1, 6, 12, 12, 0, 186, 24, 59970, 24, 24, 0, 0, 186, 12, 4, 0);
        day.pass(6);
        Days.write(day, "7,".repeat(30));
        doc.areNumbers("all rest", countsOf(day), 7, 6, 12, 0, 0, 84, 126, 59868, 126, 126, 0, 0,
            waited(), 72, 4, 60);
        agreeingCounts();
    }

    /** Station s has 10 * (s + 1) people at the first hour, 4 are served in each of the hours 0 to 5. */
    private static int waited() {
        int waited = 0;
        for (int station = 0; station < 6; station++) {
            int queue = 10 * (station + 1);
            for (int hour = 0; hour < 7; hour++) {
                queue -= hour < 6 ? Math.min(queue, 4) : 0;
                waited += queue;
            }
        }
        return waited;
    }

    private void agreeingCounts() {
        PaperStations day = Days.afterOneHour();
        day.pass(14);
        doc.is("none is counted: count(10)", day.count(10), 0);
        doc.is("none is counted: count(11)", day.count(11), 0);
        int box = day.papers(0, 5);
        for (int counted : new int[] {box - 1, box, box + 1}) {
            PaperStations one = Days.afterOneHour();
            one.pass(14);
            one.countBox(0, counted);
            doc.is("count(10) with " + counted, one.count(10), counted == box ? 1 : 0);
            doc.is("count(11) with " + counted, one.count(11), counted == box ? 0 : 1);
            one.countBox(1, 0);
            doc.is("count(10) with the empty box of the other", one.count(10), counted == box ? 2 : 1);
            one.countBox(0, box);
            doc.is("the latest count alone: count(10)", one.count(10), 2);
            one.carryOff(0, 1);
            doc.is("what is in the box now: count(11)", one.count(11), 1);
        }
        PaperStations six = Days.withStations(6);
        six.pass(15);
        for (int station = 0; station < 6; station++) {
            six.countBox(station, 0);
            doc.is("count(10)", six.count(10), station + 1);
        }
    }

    private static int[] countsOf(PaperStations day) {
        int[] told = new int[16];
        for (int what = 0; what < told.length; what++) {
            told[what] = day.count(what);
        }
        return told;
    }

    private void countReturns() {
        doc.refusesEach("BAD_VALUE: count(what)", Days.BAD_VALUE, () -> Days.begun(2, 1), PaperStations::count,
            Sentences.outside(0, 15));
        doc.is("the first: count(0)", Days.begun(2, 1).count(0), 0);
        doc.is("the last: count(15)", Days.begun(2, 1).count(15), 4);
        doc.is("count(14)", Days.begun(2, 1).count(14), 3);
    }
}
