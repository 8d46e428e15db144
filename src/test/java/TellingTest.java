/** Promises 20 to 28. */
public final class TellingTest {
    private static final Due DUE = new Due("TellingTest");

    public static void main(String[] args) {
        promise20Station();
        promise20HoursForTheQueue();
        promise21Papers();
        promise22Clerk();
        promise23Arrivals();
        promise24Free();
        promise25Busiest();
        promise26QueueIn();
        promise26Relief();
        promise27Lacks();
        promise28Count();
        promise28Counts();
        aFullDay();
        theConstants();
        DUE.end();
    }

    private static void numbers(String call, int[] got, int... want) {
        for (int what = 0; what < want.length; what++) {
            DUE.is(call + " " + what, got[what], want[what]);
        }
    }

    private static int[] stationOf(PaperStations day, int station) {
        int[] told = new int[8];
        for (int what = 0; what < told.length; what++) {
            told[what] = day.station(station, what);
        }
        return told;
    }

    private static int[] papersOf(PaperStations day, int station) {
        int[] told = new int[9];
        for (int what = 0; what < told.length; what++) {
            told[what] = day.papers(station, what);
        }
        return told;
    }

    private static int[] clerkOf(PaperStations day, int clerk) {
        int[] told = new int[7];
        for (int what = 0; what < told.length; what++) {
            told[what] = day.clerk(clerk, what);
        }
        return told;
    }

    private static int[] countsOf(PaperStations day) {
        int[] told = new int[16];
        for (int what = 0; what < told.length; what++) {
            told[what] = day.count(what);
        }
        return told;
    }

    private static void promise20Station() {
        PaperStations day = Days.afterOneHour();
        day.addClerk(7, 2);
        day.setArrivals(0, 5, 100);
        numbers("station 0", stationOf(day, 0), 10, 10, 30, 10, 1, 30, 140, 1);
        numbers("station 1", stationOf(day, 1), 0, 0, 0, 0, 0, 0, 0, 0);
        day.assign(1, 0);
        numbers("station 0", stationOf(day, 0), 10, 10, 30, 10, 2, 37, 140, 1);
        day.pass(1);
        numbers("station 0", stationOf(day, 0), 0, 10, 40, 10, 2, 37, 140, 0);
        DUE.is("station(0, 8)", day.station(0, 8), Days.BAD_VALUE);
        DUE.is("station(0, -1)", day.station(0, -1), Days.BAD_VALUE);
        DUE.is("station(2, 8)", day.station(2, 8), Days.UNKNOWN);
        DUE.is("station(-1, 0)", day.station(-1, 0), Days.UNKNOWN);
        DUE.is("station(min, 0)", day.station(Integer.MIN_VALUE, 0), Days.UNKNOWN);
        DUE.is("station(max, 0)", day.station(Integer.MAX_VALUE, 0), Days.UNKNOWN);
    }

    private static void promise20HoursForTheQueue() {
        PaperStations day = Days.withStations(1);
        day.addClerk(10, 6);
        day.setArrivals(0, 0, 30);
        DUE.is("no queue, no clerk", day.station(0, 7), 0);
        day.pass(1);
        DUE.is("a queue, no clerk", day.station(0, 7), Days.NONE);
        day.assign(0, 0);
        DUE.is("30 by 10, without papers", day.station(0, 7), 3);
        day.setArrivals(0, 1, 1);
        day.pass(1);
        DUE.is("31 by 10", day.station(0, 7), 4);
        day.setArrivals(0, 2, 9);
        day.pass(1);
        DUE.is("40 by 10", day.station(0, 7), 4);
        day.addClerk(1, 6);
        day.relieve(0);
        day.assign(1, 0);
        DUE.is("40 by 1", day.station(0, 7), 40);
    }

    private static void promise21Papers() {
        PaperStations day = Days.afterOneHour();
        numbers("papers 0", papersOf(day, 0), 70, 30, 0, 0, 0, 30, Days.NONE, Days.NONE, 0);
        day.spoil(0, 2);
        day.carryOff(0, 6);
        day.find(0, 1);
        numbers("papers 0", papersOf(day, 0), 68, 32, 2, 5, 1, 24, Days.NONE, Days.NONE, 0);
        day.pass(14);
        day.countBox(0, 40);
        numbers("papers 0", papersOf(day, 0), 58, 42, 2, 5, 1, 34, 40, 100006, 1);
        day.countBox(0, 30);
        numbers("papers 0", papersOf(day, 0), 58, 42, 2, 5, 1, 34, 30, 99996, 2);
        day.carryOff(0, 4);
        numbers("papers 0", papersOf(day, 0), 58, 42, 2, 9, 1, 30, 30, 100000, 2);
        numbers("papers 1", papersOf(day, 1), 0, 0, 0, 0, 0, 0, Days.NONE, Days.NONE, 0);
        DUE.is("papers(0, 9)", day.papers(0, 9), Days.BAD_VALUE);
        DUE.is("papers(0, -1)", day.papers(0, -1), Days.BAD_VALUE);
        DUE.is("papers(2, 9)", day.papers(2, 9), Days.UNKNOWN);
        DUE.is("papers(-1, 0)", day.papers(-1, 0), Days.UNKNOWN);
    }

    private static void promise22Clerk() {
        PaperStations day = Days.withStations(2);
        day.addClerk(11, 3);
        day.addClerk(22, 4);
        day.addClerk(33, 5);
        numbers("clerk 0", clerkOf(day, 0), 11, 3, Days.NONE, 0, 0, 0, 0);
        numbers("clerk 2", clerkOf(day, 2), 33, 5, Days.NONE, 0, 0, 0, 2);
        day.assign(0, 1);
        numbers("clerk 0", clerkOf(day, 0), 11, 3, 1, 0, 0, 0, Days.NONE);
        numbers("clerk 2", clerkOf(day, 2), 33, 5, Days.NONE, 0, 0, 0, 1);
        day.pass(2);
        numbers("clerk 0", clerkOf(day, 0), 11, 3, 1, 2, 2, 0, Days.NONE);
        day.relieve(0);
        numbers("clerk 0", clerkOf(day, 0), 11, 3, Days.NONE, 0, 2, 1, Days.NONE);
        day.pass(1);
        numbers("clerk 0", clerkOf(day, 0), 11, 3, Days.NONE, 0, 2, 0, 2);
        numbers("clerk 1", clerkOf(day, 1), 22, 4, Days.NONE, 0, 0, 0, 0);
        DUE.is("clerk(0, 7)", day.clerk(0, 7), Days.BAD_VALUE);
        DUE.is("clerk(0, -1)", day.clerk(0, -1), Days.BAD_VALUE);
        DUE.is("clerk(3, 7)", day.clerk(3, 7), Days.UNKNOWN);
        DUE.is("clerk(-1, 0)", day.clerk(-1, 0), Days.UNKNOWN);
    }

    private static void promise23Arrivals() {
        PaperStations day = Days.withStations(2);
        day.setArrivals(1, 0, 3);
        day.setArrivals(1, 14, 4);
        DUE.is("arrivals(1, 0)", day.arrivals(1, 0), 3);
        DUE.is("arrivals(1, 14)", day.arrivals(1, 14), 4);
        DUE.is("arrivals(0, 0)", day.arrivals(0, 0), 0);
        DUE.is("arrivals(0, 15)", day.arrivals(0, 15), Days.BAD_VALUE);
        DUE.is("arrivals(0, -1)", day.arrivals(0, -1), Days.BAD_VALUE);
        DUE.is("arrivals(2, 15)", day.arrivals(2, 15), Days.UNKNOWN);
        DUE.is("arrivals(-1, 0)", day.arrivals(-1, 0), Days.UNKNOWN);
        day.pass(16);
        DUE.is("arrivals(1, 0) when it is over", day.arrivals(1, 0), 3);
        DUE.is("station(1, 6) with hours that are over", day.station(1, 6), 7);
    }

    private static void promise24Free() {
        PaperStations day = Days.withStations(1);
        for (int clerk = 0; clerk < 4; clerk++) {
            day.addClerk(1, 6);
        }
        DUE.is("free(-1)", day.free(-1), Days.BAD_VALUE);
        DUE.is("free(3)", day.free(3), 3);
        DUE.is("free(4)", day.free(4), Days.NONE);
        DUE.is("free(max)", day.free(Integer.MAX_VALUE), Days.NONE);
        DUE.is("free(min)", day.free(Integer.MIN_VALUE), Days.BAD_VALUE);
        day.assign(0, 0);
        day.assign(1, 0);
        day.pass(1);
        day.relieve(1);
        day.pass(1);
        day.relieve(0);
        day.pass(1);
        DUE.is("free(0)", day.free(0), 2);
        DUE.is("free(1)", day.free(1), 3);
        DUE.is("free(2) worked an hour", day.free(2), 1);
        DUE.is("free(3) worked two", day.free(3), 0);
        DUE.is("clerk(1, 6)", day.clerk(1, 6), 2);
        DUE.is("clerk(0, 6)", day.clerk(0, 6), 3);
        day.assign(2, 0);
        DUE.is("free(0)", day.free(0), 3);
        day.relieve(2);
        DUE.is("free(0): who rests is not free", day.free(0), 3);
        DUE.is("free(3)", day.free(3), Days.NONE);
        DUE.is("count(4)", day.count(4), 3);
    }

    private static void promise25Busiest() {
        PaperStations day = Days.withStations(4);
        DUE.is("busiest(-1)", day.busiest(-1), Days.BAD_VALUE);
        DUE.is("busiest(3)", day.busiest(3), 3);
        DUE.is("busiest(4)", day.busiest(4), Days.NONE);
        day.setArrivals(1, 0, 5);
        day.setArrivals(2, 0, 9);
        day.setArrivals(3, 0, 5);
        DUE.is("arrivals are no queue yet", day.busiest(0), 0);
        day.pass(1);
        DUE.is("busiest(0)", day.busiest(0), 2);
        DUE.is("busiest(1)", day.busiest(1), 1);
        DUE.is("busiest(2)", day.busiest(2), 3);
        DUE.is("busiest(3)", day.busiest(3), 0);
        DUE.is("busiest(4)", day.busiest(4), Days.NONE);
        DUE.is("busiest(max)", day.busiest(Integer.MAX_VALUE), Days.NONE);
        day.setArrivals(3, 1, 1);
        day.setArrivals(0, 1, 1);
        day.pass(1);
        DUE.is("busiest(1) by one more", day.busiest(1), 3);
        DUE.is("busiest(2)", day.busiest(2), 1);
        DUE.is("busiest(3)", day.busiest(3), 0);
        DUE.is("busiest(0) of none", new PaperStations().busiest(0), Days.NONE);
    }

    private static void promise26QueueIn() {
        PaperStations day = Days.withStations(2);
        day.addClerk(10, 6);
        day.setArrivals(0, 0, 25);
        day.setArrivals(0, 2, 8);
        day.supply(0, 30);
        day.assign(0, 0);
        int[] want = {0, 15, 5, 3, 3};
        for (int hours = 0; hours < want.length; hours++) {
            DUE.is("queueIn(0, " + hours + ")", day.queueIn(0, hours), want[hours]);
        }
        DUE.is("queueIn(0, 18)", day.queueIn(0, 18), 3);
        DUE.is("queueIn(1, 18)", day.queueIn(1, 18), 0);
        DUE.is("queueIn(2, -1)", day.queueIn(2, -1), Days.UNKNOWN);
        DUE.is("queueIn(0, -1)", day.queueIn(0, -1), Days.BAD_VALUE);
        DUE.is("queueIn(0, 19)", day.queueIn(0, 19), Days.BAD_VALUE);
        DUE.is("nothing happened: hour", day.count(0), 0);
        DUE.is("nothing happened: queue", day.station(0, 0), 0);
        DUE.is("nothing happened: stock", day.papers(0, 0), 30);
        DUE.is("nothing happened: worked", day.clerk(0, 4), 0);
        DUE.is("no act", day.count(14), 4);
        day.pass(1);
        DUE.is("queueIn(0, 0)", day.queueIn(0, 0), 15);
        DUE.is("queueIn(0, 17)", day.queueIn(0, 17), 3);
        DUE.is("queueIn(0, 18) at 1", day.queueIn(0, 18), Days.NOT_POSSIBLE);
        DUE.is("queueIn(0, 19) at 1", day.queueIn(0, 19), Days.BAD_VALUE);
        DUE.is("pass(2)", day.pass(2), 20);
        DUE.is("the queue that was told", day.station(0, 0), 3);
    }

    private static void promise26Relief() {
        PaperStations day = Days.withStations(2);
        day.addClerk(10, 1);
        day.addClerk(1, 6);
        day.addClerk(10, 6);
        day.setArrivals(0, 0, 30);
        day.supply(0, 100);
        day.assign(0, 0);
        DUE.is("queueIn(0, 2) with the reliever", day.queueIn(0, 2), 19);
        day.assign(1, 1);
        DUE.is("queueIn(0, 2) with another reliever", day.queueIn(0, 2), 10);
    }

    private static void promise27Lacks() {
        PaperStations day = Days.withStations(2);
        day.addClerk(10, 6);
        day.setArrivals(0, 0, 25);
        day.setArrivals(0, 14, 30);
        day.supply(0, 20);
        DUE.is("lacks(0) without a clerk", day.lacks(0), 0);
        day.assign(0, 0);
        DUE.is("lacks(0): the clerk leaves ahead of the hour 14", day.lacks(0), 5);
        DUE.is("lacks(1)", day.lacks(1), 0);
        DUE.is("lacks(2)", day.lacks(2), Days.UNKNOWN);
        DUE.is("lacks(-1)", day.lacks(-1), Days.UNKNOWN);
        DUE.is("nothing happened: stock", day.papers(0, 0), 20);
        DUE.is("nothing happened: hour", day.count(0), 0);
        DUE.is("no act", day.count(14), 4);
        day.supply(0, 5);
        DUE.is("lacks(0) with enough", day.lacks(0), 0);
        day.supply(0, 5);
        DUE.is("lacks(0) with more than enough", day.lacks(0), 0);
        day.undo();
        day.undo();
        day.pass(1);
        DUE.is("lacks(0) an hour later", day.lacks(0), 5);
        day.pass(17);
        DUE.is("lacks(0) at 18", day.lacks(0), 0);
        PaperStations late = Days.withStations(1);
        late.addClerk(1, 6);
        late.setArrivals(0, 14, 40);
        late.pass(14);
        late.assign(0, 0);
        DUE.is("lacks(0) until the hour 18 alone", late.lacks(0), 4);
        late.pass(2);
        DUE.is("lacks(0) with a queue that waits for papers", late.lacks(0), 2);
        PaperStations full = Days.withStations(1);
        Days.write(full, "500,500,500,500,500,500,500,500");
        full.readArrivals(0, 0);
        full.readArrivals(0, 7);
        for (int clerk = 0; clerk < 12; clerk++) {
            full.addClerk(60, 6);
        }
        for (int clerk = 0; clerk < 12; clerk++) {
            full.assign(clerk, 0);
        }
        DUE.is("lacks(0) with six hours of clerks and no stock", full.lacks(0), 3000);
    }

    private static void promise28Count() {
        PaperStations day = Days.withStations(3);
        day.addClerk(30, 6);
        day.addClerk(10, 6);
        day.addClerk(10, 6);
        day.addClerk(10, 6);
        day.setArrivals(0, 0, 40);
        day.setArrivals(1, 0, 5);
        day.setArrivals(2, 0, 6);
        day.supply(0, 100);
        day.supply(1, 50);
        day.supply(2, 4);
        day.assign(0, 0);
        day.assign(1, 1);
        day.assign(2, 2);
        day.pass(2);
        day.spoil(1, 3);
        day.carryOff(0, 2);
        day.relieve(2);
        Days.write(day, "12,3");
        numbers("count", countsOf(day), 2, 3, 4, 2, 1, 2, 49, 102, 52, 47, 0, 0, 14, 6, 4, 4);
        DUE.is("count(16)", day.count(16), Days.BAD_VALUE);
        DUE.is("count(-1)", day.count(-1), Days.BAD_VALUE);
        DUE.is("count(max)", day.count(Integer.MAX_VALUE), Days.BAD_VALUE);
    }

    private static void promise28Counts() {
        PaperStations day = Days.withStations(4);
        day.pass(15);
        DUE.is("count(10)", day.count(10), 0);
        DUE.is("count(11)", day.count(11), 0);
        day.countBox(0, 0);
        day.countBox(1, 1);
        day.countBox(3, 2);
        DUE.is("count(10)", day.count(10), 1);
        DUE.is("count(11)", day.count(11), 2);
        day.countBox(1, 0);
        DUE.is("count(10)", day.count(10), 2);
        DUE.is("count(11)", day.count(11), 1);
        day.undo();
        DUE.is("count(10)", day.count(10), 1);
        DUE.is("count(11)", day.count(11), 2);
    }

    /** With no room left for one more station or clerk, each loop ends at the last one. */
    private static void aFullDay() {
        PaperStations day = Days.withStations(6);
        for (int clerk = 0; clerk < 12; clerk++) {
            day.addClerk(clerk + 1, 6);
        }
        for (int station = 0; station < 6; station++) {
            day.setArrivals(station, 0, 100 - station);
            day.supply(station, 1000);
            day.assign(station + 6, station);
        }
        DUE.is("count(3)", day.count(3), 6);
        DUE.is("count(4)", day.count(4), 6);
        DUE.is("free(5)", day.free(5), 5);
        DUE.is("free(6)", day.free(6), Days.NONE);
        DUE.is("pass(7)", day.pass(7), 6 * (7 + 8 + 9 + 10 + 11 + 12) + 1 + 2 + 3 + 4 + 5 + 6);
        numbers("count", countsOf(day), 7, 6, 12, 6, 0, 585 - 363, 363, 6000 - 363, 363, 363, 0, 0,
            waitedOnAFullDay(), 42, 4, 0);
        DUE.is("clerk(0, 2) came first", day.clerk(0, 2), 0);
        DUE.is("clerk(5, 2) came last", day.clerk(5, 2), 5);
        DUE.is("busiest(5)", day.busiest(5), 5);
        DUE.is("busiest(6)", day.busiest(6), Days.NONE);
        DUE.is("count(5) asked twice", day.count(5), 222);
        DUE.is("queueIn(0, 5)", day.queueIn(0, 5), 52);
        DUE.is("queueIn(0, 6) behind a change", day.queueIn(0, 6), 45);
        DUE.is("queueIn(0, 11)", day.queueIn(0, 11), 10);
        day.pass(8);
        for (int station = 0; station < 6; station++) {
            day.countBox(station, station);
        }
        DUE.is("count(10)", day.count(10), 0);
        DUE.is("count(11) of the stations with an empty queue", day.count(11), emptyQueues(day));
    }

    private static int waitedOnAFullDay() {
        int waited = 0;
        for (int station = 0; station < 6; station++) {
            int queue = 100 - station;
            for (int hour = 0; hour < 7; hour++) {
                queue -= hour < 6 ? station + 7 : station + 1;
                waited += queue;
            }
        }
        return waited;
    }

    private static int emptyQueues(PaperStations day) {
        int empty = 0;
        for (int station = 0; station < 6; station++) {
            empty += day.station(station, 0) == 0 ? 1 : 0;
        }
        return empty;
    }

    private static void theConstants() {
        DUE.is("UNKNOWN", PaperStations.UNKNOWN, -1);
        DUE.is("BAD_VALUE", PaperStations.BAD_VALUE, -2);
        DUE.is("FULL", PaperStations.FULL, -3);
        DUE.is("NOT_POSSIBLE", PaperStations.NOT_POSSIBLE, -4);
        DUE.is("NONE", PaperStations.NONE, -5);
    }
}
