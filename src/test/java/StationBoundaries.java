import java.util.function.Supplier;

/** The boundary cases of promises 1 to 7. */
final class StationBoundaries {
    private final Sentences doc;

    StationBoundaries(Sentences doc) {
        this.doc = doc;
    }

    void run() {
        doc.under("Promise 1: A new object");
        doc.test("Creates a day without stations and clerks.", this::newObject);
        runAdding();
        runArrivals();
        runDuty();
        doc.under("Promise 7: pass");
        doc.test("Lets hours pass, one after the other.", this::passesHours);
        doc.test("This is an act.", this::passIsAct);
        doc.test("- `hours`: 1 to 18", this::passHours);
        doc.test("Returns how many people are served in them; BAD_VALUE; NOT_POSSIBLE if the hour would become more"
            + " than 18.", this::passReturns);
    }

    private void runAdding() {
        doc.under("Promise 2: addStation");
        doc.test("Adds a station.", this::addsStation);
        doc.test("This is an act.", this::addStationIsAct);
        doc.test("Returns its number; FULL if there are 6.", this::addStationReturns);
        doc.under("Promise 3: addClerk");
        doc.test("Adds a clerk.", this::addsClerk);
        doc.test("This is an act.", this::addClerkIsAct);
        doc.test("- `serves`: 1 to 60", this::addClerkServes);
        doc.test("- `hours`: 1 to 6: the longest run", this::addClerkHours);
        doc.test("Returns the clerk's number; BAD_VALUE; FULL if there are 12.", this::addClerkReturns);
    }

    private void runArrivals() {
        doc.under("Promise 4: setArrivals");
        doc.test("Tells how many people arrive at a station in an hour that is not over.", this::setsArrivals);
        doc.test("This is an act.", this::setArrivalsIsAct);
        doc.test("- `station`: a station", this::setArrivalsStation);
        doc.test("- `hour`: the present hour to 14", this::setArrivalsHour);
        doc.test("- `people`: 0 to 500", this::setArrivalsPeople);
        doc.test("Returns what was told before; UNKNOWN; BAD_VALUE; NONE if it is so already.",
            this::setArrivalsReturns);
    }

    private void runDuty() {
        doc.under("Promise 5: assign");
        doc.test("Puts a clerk on duty.", this::assigns);
        doc.test("This is an act.", this::assignIsAct);
        doc.test("- `clerk`: a clerk", this::assignClerk);
        doc.test("- `station`: a station", this::assignStation);
        doc.test("Returns how many clerks are on duty there then; UNKNOWN (clerk or station); NOT_POSSIBLE if the clerk"
            + " is not free.", this::assignReturns);
        doc.under("Promise 6: relieve");
        doc.test("Lets a clerk leave their duty (and rest).", this::relieves);
        doc.test("This is an act.", this::relieveIsAct);
        doc.test("- `clerk`: a clerk", this::relieveClerk);
        doc.test("Returns the run that ends; UNKNOWN; NONE if they are not on duty.", this::relieveReturns);
    }

    private void newObject() {
        PaperStations day = new PaperStations();
        for (int what = 0; what <= 15; what++) {
            doc.is("count(" + what + ")", day.count(what), 0);
        }
        doc.is("station(0, 0)", day.station(0, 0), Days.UNKNOWN);
        doc.is("papers(0, 0)", day.papers(0, 0), Days.UNKNOWN);
        doc.is("arrivals(0, 0)", day.arrivals(0, 0), Days.UNKNOWN);
        doc.is("queueIn(0, 0)", day.queueIn(0, 0), Days.UNKNOWN);
        doc.is("lacks(0)", day.lacks(0), Days.UNKNOWN);
        doc.is("clerk(0, 0)", day.clerk(0, 0), Days.UNKNOWN);
        doc.is("free(0)", day.free(0), Days.NONE);
        doc.is("busiest(0)", day.busiest(0), Days.NONE);
        doc.is("undo()", day.undo(), Days.NONE);
        doc.is("restore()", day.restore(), Days.NONE);
        doc.is("pass(18)", day.pass(18), 0);
    }

    private void addsStation() {
        PaperStations day = Days.afterOneHour();
        day.addStation();
        doc.is("count(1)", day.count(1), 3);
        doc.is("the new one's queue", day.station(2, 0), 0);
        doc.is("the others' stay: station(0, 0)", day.station(0, 0), 10);
        doc.is("the others' stay: papers(0, 5)", day.papers(0, 5), 30);
        PaperStations late = new PaperStations();
        late.pass(18);
        doc.is("addStation() at the hour 18", late.addStation(), 0);
    }

    private void addStationIsAct() {
        doc.isAct("addStation() of the first", PaperStations::new, PaperStations::addStation);
        doc.isAct("addStation() of the last", () -> Days.begun(5, 2), PaperStations::addStation);
    }

    private void addStationReturns() {
        PaperStations day = new PaperStations();
        for (int number = 0; number < 6; number++) {
            doc.is("addStation() behind " + number, day.addStation(), number);
        }
        doc.refuses("FULL: addStation() behind 6", Days.FULL, () -> Days.begun(6, 3), PaperStations::addStation);
    }

    private void addsClerk() {
        PaperStations day = Days.afterOneHour();
        day.addClerk(7, 2);
        doc.is("count(2)", day.count(2), 2);
        doc.areNumbers("the new one's answers", clerkOf(day, 1), 7, 2, Days.NONE, 0, 0, 0, 0);
        doc.areNumbers("the other one's answers", clerkOf(day, 0), 30, 6, 0, 1, 1, 0, Days.NONE);
        PaperStations late = new PaperStations();
        late.pass(18);
        doc.is("addClerk(1, 1) at the hour 18", late.addClerk(1, 1), 0);
    }

    private static int[] clerkOf(PaperStations day, int clerk) {
        int[] told = new int[7];
        for (int what = 0; what < told.length; what++) {
            told[what] = day.clerk(clerk, what);
        }
        return told;
    }

    private void addClerkIsAct() {
        doc.isAct("addClerk(1, 1) of the first", PaperStations::new, day -> day.addClerk(1, 1));
        doc.isAct("addClerk(60, 6) of the last", () -> Days.begun(2, 11), day -> day.addClerk(60, 6));
    }

    private void addClerkServes() {
        for (int serves : new int[] {1, 2, 59, 60}) {
            PaperStations day = new PaperStations();
            doc.is("addClerk(" + serves + ", 3)", day.addClerk(serves, 3), 0);
            doc.is("clerk(0, 0)", day.clerk(0, 0), serves);
        }
        doc.refusesEach("addClerk(serves, 3)", Days.BAD_VALUE, () -> Days.begun(2, 2),
            (day, serves) -> day.addClerk(serves, 3), Sentences.outside(1, 60));
    }

    private void addClerkHours() {
        for (int hours : new int[] {1, 2, 5, 6}) {
            PaperStations day = new PaperStations();
            doc.is("addClerk(3, " + hours + ")", day.addClerk(3, hours), 0);
            doc.is("clerk(0, 1)", day.clerk(0, 1), hours);
        }
        doc.refusesEach("addClerk(3, hours)", Days.BAD_VALUE, () -> Days.begun(2, 2),
            (day, hours) -> day.addClerk(3, hours), Sentences.outside(1, 6));
    }

    private void addClerkReturns() {
        PaperStations day = new PaperStations();
        for (int number = 0; number < 12; number++) {
            doc.is("addClerk(3, 3) behind " + number, day.addClerk(3, 3), number);
        }
        Supplier<PaperStations> two = () -> Days.begun(1, 2);
        Supplier<PaperStations> twelve = () -> Days.begun(1, 12);
        doc.refuses("BAD_VALUE (serves)", Days.BAD_VALUE, two, x -> x.addClerk(0, 3));
        doc.refuses("BAD_VALUE (hours)", Days.BAD_VALUE, two, x -> x.addClerk(3, 7));
        doc.refuses("BAD_VALUE (both)", Days.BAD_VALUE, two, x -> x.addClerk(61, 0));
        doc.refuses("FULL: addClerk(3, 3) behind 12", Days.FULL, twelve, x -> x.addClerk(3, 3));
        doc.refuses("BAD_VALUE (serves) ahead of FULL", Days.BAD_VALUE, twelve, x -> x.addClerk(61, 3));
        doc.refuses("BAD_VALUE (hours) ahead of FULL", Days.BAD_VALUE, twelve, x -> x.addClerk(3, 0));
    }

    private void setsArrivals() {
        PaperStations day = Days.withStations(2);
        day.setArrivals(1, 3, 40);
        for (int hour = 0; hour <= 14; hour++) {
            doc.is("arrivals(1, " + hour + ")", day.arrivals(1, hour), hour == 3 ? 40 : 0);
            doc.is("arrivals(0, " + hour + ") of the other station", day.arrivals(0, hour), 0);
        }
        day.pass(3);
        doc.is("the present hour is not over: setArrivals(1, 3, 50)", day.setArrivals(1, 3, 50), 40);
        day.pass(1);
        doc.is("those who were told last have come", day.station(1, 0), 50);
        doc.refuses("the last hour is over: setArrivals(1, 3, 60)", Days.BAD_VALUE,
            () -> atHour(4), x -> x.setArrivals(1, 3, 60));
    }

    private static PaperStations atHour(int hour) {
        PaperStations day = Days.begun(2, 1);
        if (hour > 0) {
            day.pass(hour);
        }
        return day;
    }

    private void setArrivalsIsAct() {
        doc.isAct("setArrivals(0, 0, 500)", () -> Days.begun(1, 1), day -> day.setArrivals(0, 0, 500));
        doc.isAct("setArrivals(1, 14, 0)", () -> {
            PaperStations day = Days.begun(2, 0);
            day.setArrivals(1, 14, 1);
            return day;
        }, day -> day.setArrivals(1, 14, 0));
    }

    private void setArrivalsStation() {
        PaperStations day = Days.withStations(6);
        doc.is("the first station", day.setArrivals(0, 0, 1), 0);
        doc.is("the last station", day.setArrivals(5, 0, 1), 0);
        doc.refusesEach("setArrivals(station, 0, 1)", Days.UNKNOWN, () -> Days.begun(2, 1),
            (x, station) -> x.setArrivals(station, 0, 1), Sentences.outside(0, 1));
        doc.refuses("of no station", Days.UNKNOWN, () -> Days.begun(0, 1), x -> x.setArrivals(0, 0, 1));
        doc.refuses("of six stations", Days.UNKNOWN, () -> Days.begun(6, 1), x -> x.setArrivals(6, 0, 1));
    }

    private void setArrivalsHour() {
        for (int hour = 0; hour <= 18; hour++) {
            int present = hour;
            for (int told = -1; told <= 16; told++) {
                int want = told >= present && told <= 14 ? 0 : Days.BAD_VALUE;
                doc.is("setArrivals(0, " + told + ", 1) at " + present, atHour(present).setArrivals(0, told, 1), want);
            }
        }
        for (int hour : new int[] {0, 1, 13, 14}) {
            doc.refusesEach("setArrivals(0, hour, 1) at " + hour, Days.BAD_VALUE, () -> atHour(hour),
                (day, told) -> day.setArrivals(0, told, 1), Sentences.outside(hour, 14));
        }
        doc.refusesEach("setArrivals(0, hour, 1) at 15", Days.BAD_VALUE, () -> atHour(15),
            (day, told) -> day.setArrivals(0, told, 1), 0, 14, 15, 16);
    }

    private void setArrivalsPeople() {
        for (int people : new int[] {1, 2, 499, 500}) {
            PaperStations day = Days.withStations(1);
            doc.is("setArrivals(0, 14, " + people + ")", day.setArrivals(0, 14, people), 0);
            doc.is("arrivals(0, 14)", day.arrivals(0, 14), people);
            doc.is("setArrivals(0, 14, 0)", day.setArrivals(0, 14, 0), people);
        }
        doc.refusesEach("setArrivals(0, 0, people)", Days.BAD_VALUE, () -> Days.begun(1, 1),
            (day, people) -> day.setArrivals(0, 0, people), Sentences.outside(0, 500));
    }

    private void setArrivalsReturns() {
        PaperStations day = Days.withStations(1);
        doc.is("what was told before: 0", day.setArrivals(0, 0, 500), 0);
        doc.is("what was told before: 500", day.setArrivals(0, 0, 499), 500);
        Supplier<PaperStations> made = () -> atHour(1);
        doc.refuses("UNKNOWN", Days.UNKNOWN, made, x -> x.setArrivals(2, 1, 5));
        doc.refuses("BAD_VALUE (hour)", Days.BAD_VALUE, made, x -> x.setArrivals(0, 15, 5));
        doc.refuses("BAD_VALUE (people)", Days.BAD_VALUE, made, x -> x.setArrivals(0, 1, 501));
        doc.refuses("BAD_VALUE (both)", Days.BAD_VALUE, made, x -> x.setArrivals(0, 0, -1));
        doc.refuses("NONE: 0 at first", Days.NONE, made, x -> x.setArrivals(0, 1, 0));
        doc.refuses("NONE: 500 already", Days.NONE, Told.then(made, x -> x.setArrivals(1, 14, 500)),
            x -> x.setArrivals(1, 14, 500));
        doc.refuses("UNKNOWN ahead of BAD_VALUE (hour)", Days.UNKNOWN, made, x -> x.setArrivals(2, 15, 5));
        doc.refuses("UNKNOWN ahead of BAD_VALUE (people)", Days.UNKNOWN, made, x -> x.setArrivals(-1, 1, -1));
        doc.refuses("BAD_VALUE (hour) ahead of NONE", Days.BAD_VALUE, made, x -> x.setArrivals(0, 0, 0));
        doc.refuses("BAD_VALUE ahead of NONE at 15", Days.BAD_VALUE, () -> atHour(15), x -> x.setArrivals(0, 14, 0));
    }

    private void assigns() {
        PaperStations day = Days.begun(2, 2);
        day.assign(1, 1);
        doc.areNumbers("the clerk's answers", clerkOf(day, 1), 10, 6, 1, 0, 0, 0, Days.NONE);
        doc.areNumbers("the other one's answers", clerkOf(day, 0), 10, 6, Days.NONE, 0, 0, 0, 0);
        doc.is("station(1, 4)", day.station(1, 4), 1);
        doc.is("station(0, 4)", day.station(0, 4), 0);
    }

    private void assignIsAct() {
        doc.isAct("assign(0, 0)", () -> Days.begun(1, 1), day -> day.assign(0, 0));
        doc.isAct("assign(11, 5)", () -> Days.begun(6, 12), day -> day.assign(11, 5));
    }

    private void assignClerk() {
        PaperStations day = Days.begun(6, 12);
        doc.is("the first clerk", day.assign(0, 3), 1);
        doc.is("the last clerk", day.assign(11, 3), 2);
        doc.refusesEach("assign(clerk, 0)", Days.UNKNOWN, () -> Days.begun(2, 2), (x, clerk) -> x.assign(clerk, 0),
            Sentences.outside(0, 1));
        doc.refuses("of no clerk", Days.UNKNOWN, () -> Days.begun(2, 0), x -> x.assign(0, 0));
        doc.refuses("of twelve clerks", Days.UNKNOWN, () -> Days.begun(2, 12), x -> x.assign(12, 0));
    }

    private void assignStation() {
        PaperStations day = Days.begun(6, 2);
        doc.is("the first station", day.assign(0, 0), 1);
        doc.is("the last station", day.assign(1, 5), 1);
        doc.refusesEach("assign(0, station)", Days.UNKNOWN, () -> Days.begun(2, 2), (x, station) -> x.assign(0, station),
            Sentences.outside(0, 1));
        doc.refuses("of no station", Days.UNKNOWN, () -> Days.begun(0, 1), x -> x.assign(0, 0));
        doc.refuses("of six stations", Days.UNKNOWN, () -> Days.begun(6, 1), x -> x.assign(0, 6));
    }

    private void assignReturns() {
        PaperStations day = Days.begun(2, 12);
        for (int clerk = 0; clerk < 12; clerk++) {
            doc.is("clerks on duty there then, with " + clerk, day.assign(clerk, 1), clerk + 1);
        }
        Supplier<PaperStations> onDuty = Told.then(() -> Days.begun(2, 2), x -> x.assign(0, 0));
        Supplier<PaperStations> resting = Told.then(onDuty, x -> x.relieve(0));
        doc.refuses("UNKNOWN (clerk)", Days.UNKNOWN, onDuty, x -> x.assign(2, 0));
        doc.refuses("UNKNOWN (station)", Days.UNKNOWN, onDuty, x -> x.assign(1, 2));
        doc.refuses("UNKNOWN (both)", Days.UNKNOWN, onDuty, x -> x.assign(-1, -1));
        doc.refuses("NOT_POSSIBLE: on duty there", Days.NOT_POSSIBLE, onDuty, x -> x.assign(0, 0));
        doc.refuses("NOT_POSSIBLE: on duty elsewhere", Days.NOT_POSSIBLE, onDuty, x -> x.assign(0, 1));
        doc.refuses("NOT_POSSIBLE: relieved and resting", Days.NOT_POSSIBLE, resting, x -> x.assign(0, 0));
        doc.refuses("UNKNOWN (station) ahead of NOT_POSSIBLE", Days.UNKNOWN, onDuty, x -> x.assign(0, 2));
        doc.refuses("UNKNOWN (station) ahead of NOT_POSSIBLE", Days.UNKNOWN, resting, x -> x.assign(0, -1));
        Supplier<PaperStations> left = Told.then(onDuty, x -> x.pass(7));
        doc.refuses("NOT_POSSIBLE: left in the hour that passed", Days.NOT_POSSIBLE, left, x -> x.assign(0, 0));
        doc.is("free an hour later", Told.then(left, x -> x.pass(1)).get().assign(0, 1), 1);
    }

    private void relieves() {
        PaperStations day = Days.begun(1, 2);
        day.assign(0, 0);
        day.assign(1, 0);
        day.pass(2);
        day.relieve(0);
        doc.areNumbers("the clerk's answers", clerkOf(day, 0), 10, 6, Days.NONE, 0, 2, 1, Days.NONE);
        doc.areNumbers("the other one's answers", clerkOf(day, 1), 10, 6, 0, 2, 2, 0, Days.NONE);
        doc.is("nobody comes in their place: station(0, 4)", day.station(0, 4), 1);
    }

    private void relieveIsAct() {
        doc.isAct("relieve(0)", Told.then(() -> Days.begun(1, 1), day -> day.assign(0, 0)), day -> day.relieve(0));
        doc.isAct("relieve(11) behind an hour",
            Told.then(Told.then(() -> Days.begun(1, 12), day -> day.assign(11, 0)), day -> day.pass(1)),
            day -> day.relieve(11));
    }

    private void relieveClerk() {
        PaperStations day = Days.begun(1, 12);
        day.assign(0, 0);
        day.assign(11, 0);
        doc.is("the first clerk", day.relieve(0), 0);
        doc.is("the last clerk", day.relieve(11), 0);
        doc.refusesEach("relieve(clerk)", Days.UNKNOWN, () -> Days.begun(2, 2), PaperStations::relieve,
            Sentences.outside(0, 1));
        doc.refuses("of no clerk", Days.UNKNOWN, () -> Days.begun(2, 0), x -> x.relieve(0));
        doc.refuses("of twelve clerks", Days.UNKNOWN, () -> Days.begun(2, 12), x -> x.relieve(12));
    }

    private void relieveReturns() {
        for (int hours = 0; hours <= 6; hours++) {
            PaperStations day = Days.begun(1, 1);
            day.assign(0, 0);
            if (hours > 0) {
                day.pass(hours);
            }
            doc.is("the run that ends", day.relieve(0), hours);
        }
        Supplier<PaperStations> made = () -> Days.begun(2, 1);
        Supplier<PaperStations> onDuty = Told.then(made, day -> day.assign(0, 1));
        doc.refuses("UNKNOWN", Days.UNKNOWN, made, day -> day.relieve(1));
        doc.refuses("NONE: never on duty", Days.NONE, made, day -> day.relieve(0));
        doc.refuses("NONE: relieved already", Days.NONE, Told.then(onDuty, day -> day.relieve(0)), day -> day.relieve(0));
        doc.refuses("NONE: left in an hour", Days.NONE, Told.then(onDuty, day -> day.pass(7)), day -> day.relieve(0));
        doc.refuses("NONE: free again", Days.NONE, Told.then(onDuty, day -> day.pass(8)), day -> day.relieve(0));
    }

    private void passesHours() {
        for (int hours = 1; hours <= 18; hours++) {
            PaperStations atOnce = busyDay();
            PaperStations singly = busyDay();
            int served = 0;
            for (int hour = 0; hour < hours; hour++) {
                served += singly.pass(1);
            }
            doc.is("pass(" + hours + ")", atOnce.pass(hours), served);
            doc.holds(hours + " at once and singly", Told.state(atOnce).equals(Told.state(singly)));
        }
    }

    /** Two stations with people at the first and the last hour, and clerks of all longest runs. */
    private static PaperStations busyDay() {
        PaperStations day = Days.withStations(2);
        for (int clerk = 0; clerk < 6; clerk++) {
            day.addClerk(clerk + 1, clerk + 1);
        }
        for (int hour = 0; hour <= 14; hour++) {
            day.setArrivals(hour % 2, hour, 30);
        }
        day.supply(0, 60);
        day.supply(1, 40);
        day.assign(3, 0);
        day.assign(1, 1);
        return day;
    }

    private void passIsAct() {
        doc.isAct("pass(1)", StationBoundaries::busyDay, day -> day.pass(1));
        doc.isAct("pass(18)", StationBoundaries::busyDay, day -> day.pass(18));
        doc.isAct("pass(1) of an empty day", PaperStations::new, day -> day.pass(1));
    }

    private void passHours() {
        for (int hours : new int[] {1, 2, 17, 18}) {
            PaperStations day = new PaperStations();
            doc.is("pass(" + hours + ")", day.pass(hours), 0);
            doc.is("count(0)", day.count(0), hours);
        }
        doc.refusesEach("pass(hours)", Days.BAD_VALUE, () -> Days.begun(2, 2), PaperStations::pass,
            Sentences.outside(1, 18));
    }

    private void passReturns() {
        doc.is("nobody is served", Days.begun(2, 2).pass(18), 0);
        PaperStations day = Days.withStations(2);
        day.addClerk(60, 6);
        day.setArrivals(0, 0, 61);
        day.setArrivals(0, 5, 500);
        day.supply(0, 62);
        day.assign(0, 0);
        doc.is("60 in the first hour, 1 in the second, 1 with the last paper", day.pass(6), 62);
        for (int hour = 0; hour <= 18; hour++) {
            int present = hour;
            for (int hours = 1; hours <= 18; hours++) {
                int want = present + hours <= 18 ? 0 : Days.NOT_POSSIBLE;
                doc.is("pass(" + hours + ") at " + present, atHour(present).pass(hours), want);
            }
        }
        doc.refuses("BAD_VALUE", Days.BAD_VALUE, () -> atHour(5), x -> x.pass(0));
        doc.refuses("NOT_POSSIBLE: to 19 from 1", Days.NOT_POSSIBLE, () -> atHour(1), x -> x.pass(18));
        doc.refuses("NOT_POSSIBLE: to 19 from 17", Days.NOT_POSSIBLE, () -> atHour(17), x -> x.pass(2));
        doc.refuses("NOT_POSSIBLE: to 19 from 18", Days.NOT_POSSIBLE, () -> atHour(18), x -> x.pass(1));
        doc.refuses("BAD_VALUE ahead of NOT_POSSIBLE", Days.BAD_VALUE, () -> atHour(18), x -> x.pass(19));
        doc.refuses("BAD_VALUE at 18", Days.BAD_VALUE, () -> atHour(18), x -> x.pass(0));
        doc.refuses("BAD_VALUE of the greatest int", Days.BAD_VALUE, () -> atHour(1), x -> x.pass(Integer.MAX_VALUE));
    }
}
