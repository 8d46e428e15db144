/** The boundary cases of "What it is" and of the terms HOURS, STATIONS, CLERKS, AN HOUR PASSES and PAPERS. */
final class TermBoundaries {
    private final Sentences doc;

    TermBoundaries(Sentences doc) {
        this.doc = doc;
    }

    void run() {
        doc.under("What it is");
        doc.test("An object is used for at most 512 calls after it has been made; what later calls answer is free.",
            this::callsOfAnObject);
        doc.under("HOURS");
        doc.test("The hour is 0 at first, and at most 18.", this::hour);
        doc.test("For each station and each of the hours 0 to 14 some people arrive (0 to 500; 0 at first).",
            this::arrivingPeople);
        doc.under("STATIONS");
        doc.test("There are at most 6 stations, numbered from 0.", this::numberOfStations);
        doc.test("A station has a queue of people, a stock of papers, papers that were issued, spoilt, carried off and"
            + " found, and papers in its box; all of these are 0 at first.", this::stationAtFirst);
        doc.under("CLERKS");
        doc.test("There are at most 12 clerks, numbered from 0.", this::numberOfClerks);
        doc.test("A clerk serves so many people an hour (1 to 60), and may be on duty for so many hours on end at most"
            + " (1 to 6).", this::powersOfClerks);
        doc.test("A clerk is on duty at a station or not (at first not).", this::dutyAtFirst);
        doc.test("For each clerk it is known how many hours they have worked, how long they have been on duty (their"
            + " run; 0 if they are not), and whether they rest (at first not): those who left their duty rest until"
            + " the end of the hour that passes next.", this::workRunAndRest);
        doc.test("Clerks who are not on duty and do not rest are free.", this::whoIsFree);
        doc.test("Free clerks have an order: those who have worked fewer hours first, then by their numbers.",
            this::orderOfFreeClerks);
        runHour();
        doc.under("PAPERS");
        doc.test("A paper that is spoilt is given back, and another one is issued from the stock (so one more was"
            + " issued), which goes into the box in its place.", this::spoiltPapers);
        doc.test("A paper that is carried off is not in the box; one that is found was carried off, and does not go"
            + " into the box.", this::carriedAndFoundPapers);
    }

    private void runHour() {
        doc.under("AN HOUR PASSES");
        doc.test("When an hour passes, the following happens in this order:", this::orderOfSteps);
        doc.test("1. At each station those who arrive in this hour come into the queue.", this::arrivalsQueue);
        doc.test("2. Each clerk who is on duty, by number, and whose run is as long as it may be, leaves the duty (and"
            + " rests); the first free clerk comes in their place, at the same station; if none is free, nobody does.",
            this::relievedClerks);
        doc.test("3. At each station as many people are served as the queue has, as the clerks on duty there serve"
            + " together, and as the stock has papers (the least of these).", this::servedPeople);
        doc.test("Each of them is issued a paper, which goes into the box.", this::issuedPapers);
        doc.test("Those who are left in the queue wait for an hour.", this::waitingPeople);
        doc.test("4. Each clerk on duty has worked an hour more, and their run is an hour longer.", this::workedHours);
        doc.test("Those who rested at the beginning of step 2 do not rest any more.", this::endedRests);
        doc.test("5. The hour becomes greater by 1.", this::hourBecomesGreater);
    }

    private void callsOfAnObject() {
        PaperStations day = Days.withStations(1);
        for (int call = 2; call <= 511; call++) {
            doc.is("type as call " + call, day.type('1'), call <= 61 ? call - 1 : Days.FULL);
        }
        doc.is("readArrivals(0, 0) as call 512", day.readArrivals(0, 0), -103);
        PaperStations fresh = new PaperStations();
        doc.is("addStation() as call 1", fresh.addStation(), 0);
        for (int papers = 1; papers <= 511; papers++) {
            doc.is("supply(0, 1) as call " + (papers + 1), fresh.supply(0, 1), papers);
        }
    }

    private void hour() {
        PaperStations day = new PaperStations();
        doc.is("count(0) at first", day.count(0), 0);
        for (int hour = 1; hour <= 18; hour++) {
            doc.is("pass(1) to " + hour, day.pass(1), 0);
            doc.is("count(0)", day.count(0), hour);
        }
        doc.is("pass(1) at 18", day.pass(1), Days.NOT_POSSIBLE);
        doc.is("count(0)", day.count(0), 18);
        PaperStations atOnce = new PaperStations();
        doc.is("pass(18) at 0", atOnce.pass(18), 0);
        doc.is("count(0)", atOnce.count(0), 18);
    }

    private void arrivingPeople() {
        PaperStations day = Days.withStations(6);
        for (int station = 0; station < 6; station++) {
            for (int hour = 0; hour <= 14; hour++) {
                doc.is("arrivals(" + station + ", " + hour + ") at first", day.arrivals(station, hour), 0);
                doc.is("setArrivals to 500", day.setArrivals(station, hour, 500), 0);
                doc.is("setArrivals to 501", day.setArrivals(station, hour, 501), Days.BAD_VALUE);
                doc.is("setArrivals to -1", day.setArrivals(station, hour, -1), Days.BAD_VALUE);
                doc.is("arrivals(" + station + ", " + hour + ")", day.arrivals(station, hour), 500);
            }
        }
        doc.is("setArrivals(0, 0, 0)", day.setArrivals(0, 0, 0), 500);
        doc.is("setArrivals(5, 14, 0)", day.setArrivals(5, 14, 0), 500);
        doc.is("setArrivals(0, -1, 1)", day.setArrivals(0, -1, 1), Days.BAD_VALUE);
        doc.is("setArrivals(5, 15, 1)", day.setArrivals(5, 15, 1), Days.BAD_VALUE);
        doc.is("arrivals(0, -1)", day.arrivals(0, -1), Days.BAD_VALUE);
        doc.is("arrivals(5, 15)", day.arrivals(5, 15), Days.BAD_VALUE);
    }

    private void numberOfStations() {
        PaperStations day = new PaperStations();
        doc.is("count(1) of none", day.count(1), 0);
        doc.is("station(0, 0) of none", day.station(0, 0), Days.UNKNOWN);
        for (int number = 0; number < 6; number++) {
            doc.is("addStation()", day.addStation(), number);
            doc.is("station(" + number + ", 0)", day.station(number, 0), 0);
            doc.is("station of the next number", day.station(number + 1, 0), Days.UNKNOWN);
            doc.is("station(-1, 0)", day.station(-1, 0), Days.UNKNOWN);
        }
        doc.is("addStation() the seventh", day.addStation(), Days.FULL);
        doc.is("count(1)", day.count(1), 6);
        doc.is("the last station is in use: supply(5, 3)", day.supply(5, 3), 3);
        doc.is("the first station is not touched: papers(0, 0)", day.papers(0, 0), 0);
    }

    private void stationAtFirst() {
        PaperStations day = new PaperStations();
        for (int number = 0; number < 6; number++) {
            day.addStation();
            doc.is("queue of " + number, day.station(number, 0), 0);
            for (int what = 0; what <= 5; what++) {
                doc.is("papers(" + number + ", " + what + ")", day.papers(number, what), 0);
            }
        }
        PaperStations late = Days.afterOneHour();
        int added = late.addStation();
        doc.is("queue of one that is added later", late.station(added, 0), 0);
        for (int what = 0; what <= 5; what++) {
            doc.is("papers " + what + " of one that is added later", late.papers(added, what), 0);
        }
    }

    private void numberOfClerks() {
        PaperStations day = new PaperStations();
        doc.is("count(2) of none", day.count(2), 0);
        doc.is("clerk(0, 0) of none", day.clerk(0, 0), Days.UNKNOWN);
        for (int number = 0; number < 12; number++) {
            doc.is("addClerk()", day.addClerk(number + 1, 6), number);
            doc.is("clerk(" + number + ", 0)", day.clerk(number, 0), number + 1);
            doc.is("clerk of the next number", day.clerk(number + 1, 0), Days.UNKNOWN);
            doc.is("clerk(-1, 0)", day.clerk(-1, 0), Days.UNKNOWN);
        }
        doc.is("addClerk(1, 1) the thirteenth", day.addClerk(1, 1), Days.FULL);
        doc.is("count(2)", day.count(2), 12);
        doc.is("clerk(0, 0) the first is not touched", day.clerk(0, 0), 1);
        doc.is("clerk(11, 0) the last", day.clerk(11, 0), 12);
    }

    private void powersOfClerks() {
        for (int serves : new int[] {1, 2, 59, 60}) {
            PaperStations day = Days.withStations(1);
            day.addClerk(serves, 6);
            day.setArrivals(0, 0, 500);
            day.supply(0, 500);
            day.assign(0, 0);
            doc.is("an hour of one who serves " + serves, day.pass(1), serves);
        }
        for (int most = 1; most <= 6; most++) {
            PaperStations day = Days.withStations(1);
            day.addClerk(1, most);
            day.assign(0, 0);
            day.pass(most);
            doc.is("run of " + most + " behind " + most + " hours", day.clerk(0, 3), most);
            doc.is("still on duty", day.clerk(0, 2), 0);
            day.pass(1);
            doc.is("not on duty an hour later", day.clerk(0, 2), Days.NONE);
            doc.is("worked no longer than " + most, day.clerk(0, 4), most);
        }
        doc.is("serves 0", new PaperStations().addClerk(0, 6), Days.BAD_VALUE);
        doc.is("serves 61", new PaperStations().addClerk(61, 6), Days.BAD_VALUE);
        doc.is("0 hours", new PaperStations().addClerk(60, 0), Days.BAD_VALUE);
        doc.is("7 hours", new PaperStations().addClerk(60, 7), Days.BAD_VALUE);
    }

    private void dutyAtFirst() {
        PaperStations day = Days.withStations(6);
        day.addClerk(1, 1);
        doc.is("clerk(0, 2) at first", day.clerk(0, 2), Days.NONE);
        doc.is("count(3) at first", day.count(3), 0);
        day.assign(0, 5);
        doc.is("clerk(0, 2) at the last station", day.clerk(0, 2), 5);
        doc.is("at one station alone", day.station(0, 4), 0);
        day.relieve(0);
        doc.is("clerk(0, 2) not on duty again", day.clerk(0, 2), Days.NONE);
        day.pass(1);
        day.assign(0, 0);
        doc.is("clerk(0, 2) at the first station", day.clerk(0, 2), 0);
    }

    private void workRunAndRest() {
        PaperStations day = Days.withStations(1);
        day.addClerk(1, 2);
        doc.areNumbers("at first: run, worked, rests", workOf(day), 0, 0, 0);
        day.assign(0, 0);
        doc.areNumbers("assigned", workOf(day), 0, 0, 0);
        day.relieve(0);
        doc.areNumbers("relieved at once", workOf(day), 0, 0, 1);
        day.pass(1);
        doc.areNumbers("rested until the end of the hour", workOf(day), 0, 0, 0);
        day.assign(0, 0);
        day.pass(2);
        doc.areNumbers("behind the longest run", workOf(day), 2, 2, 0);
        day.pass(1);
        doc.areNumbers("left in this hour", workOf(day), 0, 2, 1);
        day.pass(1);
        doc.areNumbers("rested until the end of the next hour", workOf(day), 0, 2, 0);
        PaperStations last = Days.withStations(1);
        last.addClerk(1, 6);
        last.pass(18);
        last.assign(0, 0);
        last.relieve(0);
        doc.areNumbers("rests on at 18, as no hour passes", workOf(last), 0, 0, 1);
        PaperStations ends = Days.withStations(1);
        ends.addClerk(1, 2);
        ends.assign(0, 0);
        ends.pass(2);
        ends.relieve(0);
        doc.areNumbers("relieved with the longest run", workOf(ends), 0, 2, 1);
        ends.pass(1);
        doc.areNumbers("rests for one hour alone then", workOf(ends), 0, 2, 0);
    }

    private static int[] workOf(PaperStations day) {
        return new int[] {day.clerk(0, 3), day.clerk(0, 4), day.clerk(0, 5)};
    }

    private void whoIsFree() {
        PaperStations day = Days.withStations(1);
        doc.is("nobody is there: count(4)", day.count(4), 0);
        for (int clerk = 0; clerk < 12; clerk++) {
            day.addClerk(1, 6);
        }
        doc.is("all are free: count(4)", day.count(4), 12);
        day.assign(11, 0);
        doc.is("on duty: clerk(11, 6)", day.clerk(11, 6), Days.NONE);
        doc.is("count(4)", day.count(4), 11);
        day.relieve(11);
        doc.is("resting: clerk(11, 6)", day.clerk(11, 6), Days.NONE);
        doc.is("count(4)", day.count(4), 11);
        day.pass(1);
        doc.is("rested: clerk(11, 6)", day.clerk(11, 6), 11);
        for (int clerk = 0; clerk < 12; clerk++) {
            day.assign(clerk, 0);
        }
        doc.is("nobody is free: count(4)", day.count(4), 0);
        doc.is("free(0)", day.free(0), Days.NONE);
    }

    private void orderOfFreeClerks() {
        PaperStations day = Days.withStations(1);
        for (int clerk = 0; clerk < 12; clerk++) {
            day.addClerk(1, 6);
        }
        order(day, 0, 1, 2, 3, 4, 5, 6, 7, 8, 9, 10, 11);
        day.assign(0, 0);
        day.assign(5, 0);
        day.pass(1);
        day.relieve(5);
        order(day, 1, 2, 3, 4, 6, 7, 8, 9, 10, 11);
        day.pass(1);
        day.relieve(0);
        order(day, 1, 2, 3, 4, 6, 7, 8, 9, 10, 11, 5);
        day.pass(1);
        order(day, 1, 2, 3, 4, 6, 7, 8, 9, 10, 11, 5, 0);
        day.assign(11, 0);
        day.pass(1);
        day.relieve(11);
        day.pass(1);
        order(day, 1, 2, 3, 4, 6, 7, 8, 9, 10, 5, 11, 0);
    }

    private void order(PaperStations day, int... clerks) {
        for (int place = 0; place < clerks.length; place++) {
            doc.is("free(" + place + ")", day.free(place), clerks[place]);
            doc.is("clerk(" + clerks[place] + ", 6)", day.clerk(clerks[place], 6), place);
        }
        doc.is("free behind the last", day.free(clerks.length), Days.NONE);
    }

    private void orderOfSteps() {
        PaperStations day = Days.withStations(1);
        day.addClerk(7, 1);
        day.addClerk(3, 6);
        day.supply(0, 100);
        day.setArrivals(0, 0, 1);
        day.setArrivals(0, 1, 20);
        day.assign(0, 0);
        doc.is("1 before 3: who arrives is served in that hour", day.pass(1), 1);
        doc.is("2 before 3: the reliever serves, not who leaves", day.pass(1), 3);
        doc.is("2 before 4: the reliever has worked", day.clerk(1, 4), 1);
        doc.is("2 before 4: who left has not", day.clerk(0, 4), 1);
        doc.is("2 before 4: who left has no run", day.clerk(0, 3), 0);
        PaperStations resting = Days.withStations(1);
        resting.addClerk(1, 1);
        resting.addClerk(1, 6);
        resting.assign(0, 0);
        resting.assign(1, 0);
        resting.pass(1);
        resting.relieve(1);
        resting.pass(1);
        doc.is("2 before the end of rests: nobody was free", resting.count(3), 0);
        PaperStations last = Days.withStations(1);
        last.setArrivals(0, 14, 9);
        last.pass(14);
        doc.is("1 before 5: the hour 14 comes with the pass from 14", last.station(0, 0), 0);
        last.pass(1);
        doc.is("queue at 15", last.station(0, 0), 9);
    }

    private void arrivalsQueue() {
        PaperStations day = Days.withStations(6);
        day.setArrivals(0, 0, 3);
        day.setArrivals(0, 1, 500);
        day.setArrivals(5, 0, 500);
        day.setArrivals(5, 14, 2);
        day.pass(1);
        doc.is("first station, hour 0", day.station(0, 0), 3);
        doc.is("last station, hour 0", day.station(5, 0), 500);
        doc.is("a station where nobody arrives", day.station(3, 0), 0);
        day.pass(1);
        doc.is("first station, hour 1: those who wait stay", day.station(0, 0), 503);
        day.pass(12);
        doc.is("last station at 14", day.station(5, 0), 500);
        day.pass(1);
        doc.is("last station at 15", day.station(5, 0), 502);
        day.pass(3);
        doc.is("nobody arrives from 15 to 18: last station", day.station(5, 0), 502);
        doc.is("nobody arrives from 15 to 18: first station", day.station(0, 0), 503);
    }

    private void relievedClerks() {
        PaperStations one = Days.withStations(2);
        one.addClerk(1, 2);
        one.assign(0, 1);
        one.pass(2);
        doc.is("a run of 1 of 2 stays, and works on", one.clerk(0, 3), 2);
        one.pass(1);
        doc.is("nobody else is there: clerk(0, 2)", one.clerk(0, 2), Days.NONE);
        doc.is("nobody comes", one.station(1, 4), 0);
        doc.is("and rests", one.clerk(0, 5), 1);
        PaperStations busy = fullOfRuns(12, 6);
        busy.pass(7);
        doc.is("all twelve leave, none is free", busy.count(3), 0);
        doc.is("and all rest", restingOf(busy), 12);
        PaperStations last = fullOfRuns(11, 1);
        last.pass(2);
        doc.is("the one who is free relieves the first by number", last.clerk(11, 2), 0);
        doc.is("and nobody the others", last.count(3), 1);
        PaperStations halves = fullOfRuns(6, 1);
        halves.pass(2);
        for (int clerk = 6; clerk < 12; clerk++) {
            doc.is("relieved by number, at the same station: " + clerk, halves.clerk(clerk, 2), clerk - 6);
        }
        doc.is("a reliever works in this very hour", halves.clerk(11, 3), 1);
        doc.is("nobody is free any more", halves.count(4), 0);
        PaperStations worked = fullOfRuns(1, 2);
        worked.assign(1, 5);
        worked.pass(1);
        worked.relieve(1);
        worked.pass(1);
        for (int clerk = 2; clerk < 12; clerk++) {
            worked.assign(clerk, 5);
        }
        worked.pass(1);
        doc.is("the only free one comes, having worked more", worked.clerk(1, 2), 0);
    }

    /** Clerks who serve 1 and may stay for so many hours, the first ones on duty, at stations by turns. */
    private static PaperStations fullOfRuns(int onDuty, int hours) {
        PaperStations day = Days.withStations(6);
        for (int clerk = 0; clerk < 12; clerk++) {
            day.addClerk(1, hours);
        }
        for (int clerk = 0; clerk < onDuty; clerk++) {
            day.assign(clerk, clerk % 6);
        }
        return day;
    }

    private static int restingOf(PaperStations day) {
        int resting = 0;
        for (int clerk = 0; clerk < 12; clerk++) {
            resting += day.clerk(clerk, 5);
        }
        return resting;
    }

    private void servedPeople() {
        int[][] cases = {{0, 9, 9, 0}, {9, 0, 9, 0}, {9, 9, 0, 0}, {0, 0, 0, 0}, {1, 1, 1, 1}, {8, 9, 9, 8},
            {9, 8, 9, 8}, {9, 9, 8, 8}, {9, 9, 9, 9}, {10, 9, 9, 9}, {9, 10, 9, 9}, {9, 9, 10, 9},
            {500, 60, 9999, 60}, {500, 60, 59, 59}, {59, 60, 9999, 59}};
        for (int[] one : cases) {
            PaperStations day = stationWith(one[0], one[1], one[2]);
            String name = "queue " + one[0] + ", clerk " + one[1] + ", stock " + one[2];
            doc.is(name + ": pass(1)", day.pass(1), one[3]);
            doc.is(name + ": served", day.station(0, 2), one[3]);
            doc.is(name + ": queue", day.station(0, 0), one[0] - one[3]);
        }
        PaperStations all = Days.withStations(2);
        all.setArrivals(0, 0, 500);
        all.setArrivals(1, 0, 500);
        all.supply(0, 9999);
        all.supply(1, 9999);
        for (int clerk = 0; clerk < 12; clerk++) {
            all.addClerk(60, 6);
            all.assign(clerk, clerk < 8 ? 0 : 1);
        }
        doc.is("eight serve 480 together, four 240", all.pass(1), 720);
        doc.is("those of one station do not serve at another", all.station(1, 2), 240);
    }

    private static PaperStations stationWith(int people, int serves, int papers) {
        PaperStations day = Days.withStations(1);
        day.setArrivals(0, 0, people);
        if (papers > 0) {
            day.supply(0, papers);
        }
        if (serves > 0) {
            day.addClerk(serves, 6);
            day.assign(0, 0);
        }
        return day;
    }

    private void issuedPapers() {
        PaperStations none = stationWith(9, 9, 0);
        none.pass(1);
        doc.areNumbers("nobody is served: stock, issued, box", papersOf(none), 0, 0, 0);
        PaperStations last = stationWith(9, 9, 9);
        last.pass(1);
        doc.areNumbers("the last paper is issued: stock, issued, box", papersOf(last), 0, 9, 9);
        PaperStations one = stationWith(1, 60, 9999);
        one.pass(1);
        doc.areNumbers("one paper is issued: stock, issued, box", papersOf(one), 9998, 1, 1);
        one.setArrivals(0, 1, 2);
        one.pass(1);
        doc.areNumbers("two more: stock, issued, box", papersOf(one), 9996, 3, 3);
    }

    private static int[] papersOf(PaperStations day) {
        return new int[] {day.papers(0, 0), day.papers(0, 1), day.papers(0, 5)};
    }

    private void waitingPeople() {
        PaperStations all = stationWith(9, 9, 9);
        all.pass(1);
        doc.is("nobody is left: hours waited", all.station(0, 3), 0);
        doc.is("nobody is left: longest queue", all.station(0, 1), 0);
        PaperStations one = stationWith(10, 9, 9);
        one.pass(1);
        doc.is("one is left: hours waited", one.station(0, 3), 1);
        doc.is("one is left: longest queue", one.station(0, 1), 1);
        one.pass(17);
        doc.is("to the hour 18", one.station(0, 3), 18);
        PaperStations most = stationWith(500, 0, 0);
        for (int hour = 1; hour <= 14; hour++) {
            most.setArrivals(0, hour, 500);
        }
        most.pass(18);
        doc.is("the most hours that can be waited", most.station(0, 3), 500 * 15 * 16 / 2 + 3 * 7500);
        doc.is("the longest queue that can be", most.station(0, 1), 7500);
    }

    private void workedHours() {
        PaperStations day = fullOfRuns(11, 6);
        day.pass(1);
        doc.is("first on duty: worked", day.clerk(0, 4), 1);
        doc.is("first on duty: run", day.clerk(0, 3), 1);
        doc.is("last on duty: worked", day.clerk(10, 4), 1);
        doc.is("last on duty: run", day.clerk(10, 3), 1);
        doc.is("not on duty: worked", day.clerk(11, 4), 0);
        doc.is("not on duty: run", day.clerk(11, 3), 0);
        day.pass(5);
        doc.is("to the longest run", day.clerk(0, 3), 6);
        day.pass(1);
        doc.is("who left has worked no more", day.clerk(0, 4), 6);
        doc.is("the reliever has worked the first hour", day.clerk(11, 4), 1);
        doc.is("the reliever's run begins", day.clerk(11, 3), 1);
        doc.is("count(13)", day.count(13), 67);
    }

    private void endedRests() {
        PaperStations day = Days.withStations(1);
        day.addClerk(1, 1);
        day.addClerk(1, 1);
        day.assign(0, 0);
        day.assign(1, 0);
        day.relieve(1);
        day.pass(1);
        doc.is("who rested at the beginning: clerk(1, 5)", day.clerk(1, 5), 0);
        day.pass(1);
        doc.is("who left in step 2: clerk(0, 5)", day.clerk(0, 5), 1);
        doc.is("who relieved: clerk(1, 2)", day.clerk(1, 2), 0);
        day.pass(1);
        doc.is("who rested at the beginning: clerk(0, 5)", day.clerk(0, 5), 0);
        doc.is("so nobody was free: clerk(1, 2)", day.clerk(1, 2), Days.NONE);
        doc.is("who left in step 2: clerk(1, 5)", day.clerk(1, 5), 1);
        PaperStations all = fullOfRuns(12, 6);
        for (int clerk = 0; clerk < 12; clerk++) {
            all.relieve(clerk);
        }
        doc.is("all twelve rest", restingOf(all), 12);
        all.pass(1);
        doc.is("none rests any more", restingOf(all), 0);
    }

    private void hourBecomesGreater() {
        PaperStations day = new PaperStations();
        day.pass(1);
        doc.is("from 0", day.count(0), 1);
        day.pass(13);
        day.pass(1);
        doc.is("from 14", day.count(0), 15);
        day.pass(2);
        day.pass(1);
        doc.is("from 17", day.count(0), 18);
    }

    private void spoiltPapers() {
        PaperStations day = Days.afterOneHour();
        day.spoil(0, 1);
        doc.areNumbers("one is spoilt: stock, issued, box", papersOf(day), 69, 31, 30);
        doc.is("spoilt", day.papers(0, 2), 1);
        day.spoil(0, 30);
        doc.areNumbers("as many as the box has: stock, issued, box", papersOf(day), 39, 61, 30);
        day.spoil(0, 30);
        day.spoil(0, 9);
        doc.areNumbers("as many as the stock has: stock, issued, box", papersOf(day), 0, 100, 30);
        doc.is("spoilt", day.papers(0, 2), 70);
        doc.is("nobody is served by it", day.station(0, 2), 30);
        doc.is("nor leaves the queue", day.station(0, 0), 10);
        doc.is("the other station's", day.papers(1, 2), 0);
    }

    private void carriedAndFoundPapers() {
        PaperStations day = Days.afterOneHour();
        day.carryOff(0, 30);
        doc.areNumbers("all are carried off: stock, issued, box", papersOf(day), 70, 30, 0);
        doc.is("carried off still", day.papers(0, 3), 30);
        day.find(0, 1);
        doc.areNumbers("one is found: stock, issued, box", papersOf(day), 70, 30, 0);
        doc.is("found", day.papers(0, 4), 1);
        doc.is("carried off still", day.papers(0, 3), 29);
        day.find(0, 29);
        doc.areNumbers("all are found: stock, issued, box", papersOf(day), 70, 30, 0);
        doc.is("found", day.papers(0, 4), 30);
        doc.is("carried off still", day.papers(0, 3), 0);
        doc.is("find(0, 1): what is found is not carried off any more", day.find(0, 1), Days.NOT_POSSIBLE);
        doc.is("carryOff(0, 1): what is found is not in the box", day.carryOff(0, 1), Days.NOT_POSSIBLE);
    }
}
