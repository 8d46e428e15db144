/** Promises 1 to 7. */
public final class StationsAndClerksTest {
    private static final Due DUE = new Due("StationsAndClerksTest");

    public static void main(String[] args) {
        promise1NewObject();
        promise2AddStation();
        promise3AddClerk();
        promise4SetArrivals();
        promise5Assign();
        promise6Relieve();
        promise7Pass();
        promise7ServesTheLeast();
        promise7Waiting();
        promise7ChangesOfClerks();
        promise7OrderOfChanges();
        promise7Rests();
        DUE.end();
    }

    private static void promise1NewObject() {
        PaperStations day = new PaperStations();
        for (int what = 0; what <= 15; what++) {
            DUE.is("new: count(" + what + ")", day.count(what), 0);
        }
        DUE.is("new: station(0, 0)", day.station(0, 0), Days.UNKNOWN);
        DUE.is("new: clerk(0, 0)", day.clerk(0, 0), Days.UNKNOWN);
        DUE.is("new: undo()", day.undo(), Days.NONE);
        DUE.is("new: restore()", day.restore(), Days.NONE);
        DUE.is("new: free(0)", day.free(0), Days.NONE);
        DUE.is("new: busiest(0)", day.busiest(0), Days.NONE);
        DUE.is("new: clearText()", day.clearText(), 0);
        PaperStations other = new PaperStations();
        other.addStation();
        DUE.is("objects are apart: count(1)", day.count(1), 0);
    }

    private static void promise2AddStation() {
        PaperStations day = new PaperStations();
        for (int number = 0; number < 6; number++) {
            DUE.is("addStation()", day.addStation(), number);
        }
        DUE.is("addStation() the seventh", day.addStation(), Days.FULL);
        DUE.is("count(1)", day.count(1), 6);
        DUE.is("count(14)", day.count(14), 4);
        DUE.is("station(5, 0)", day.station(5, 0), 0);
        DUE.is("station(6, 0)", day.station(6, 0), Days.UNKNOWN);
        DUE.is("undo()", day.undo(), 3);
        DUE.is("addStation() in its place", day.addStation(), 5);
        PaperStations used = Days.withStations(1);
        used.setArrivals(0, 0, 7);
        used.supply(0, 9);
        used.undo();
        used.undo();
        used.undo();
        used.addStation();
        DUE.is("a station added again is fresh: stock", used.papers(0, 0), 0);
        DUE.is("a station added again is fresh: arrivals", used.station(0, 6), 0);
        for (int what = 0; what <= 7; what++) {
            DUE.is("fresh station(0, " + what + ")", used.station(0, what), 0);
        }
    }

    private static void promise3AddClerk() {
        PaperStations day = new PaperStations();
        DUE.is("addClerk(0, 1)", day.addClerk(0, 1), Days.BAD_VALUE);
        DUE.is("addClerk(61, 1)", day.addClerk(61, 1), Days.BAD_VALUE);
        DUE.is("addClerk(1, 0)", day.addClerk(1, 0), Days.BAD_VALUE);
        DUE.is("addClerk(1, 7)", day.addClerk(1, 7), Days.BAD_VALUE);
        DUE.is("addClerk(min, max)", day.addClerk(Integer.MIN_VALUE, Integer.MAX_VALUE), Days.BAD_VALUE);
        DUE.is("no state of errors", day.count(14), 0);
        DUE.is("addClerk(1, 6)", day.addClerk(1, 6), 0);
        DUE.is("addClerk(60, 1)", day.addClerk(60, 1), 1);
        DUE.is("count(14)", day.count(14), 2);
        DUE.is("clerk(0, 0)", day.clerk(0, 0), 1);
        DUE.is("clerk(0, 1)", day.clerk(0, 1), 6);
        DUE.is("clerk(1, 0)", day.clerk(1, 0), 60);
        DUE.is("clerk(1, 1)", day.clerk(1, 1), 1);
        for (int number = 2; number < 12; number++) {
            DUE.is("addClerk(5, 5)", day.addClerk(5, 5), number);
        }
        DUE.is("addClerk(5, 5) the thirteenth", day.addClerk(5, 5), Days.FULL);
        DUE.is("addClerk(0, 5) BAD_VALUE ahead of FULL", day.addClerk(0, 5), Days.BAD_VALUE);
        DUE.is("addClerk(5, 7) BAD_VALUE ahead of FULL", day.addClerk(5, 7), Days.BAD_VALUE);
        DUE.is("count(2)", day.count(2), 12);
    }

    private static void promise4SetArrivals() {
        PaperStations day = Days.withStations(1);
        DUE.is("setArrivals(1, 99, -1)", day.setArrivals(1, 99, -1), Days.UNKNOWN);
        DUE.is("setArrivals(-1, 0, 1)", day.setArrivals(-1, 0, 1), Days.UNKNOWN);
        DUE.is("setArrivals(0, -1, 1)", day.setArrivals(0, -1, 1), Days.BAD_VALUE);
        DUE.is("setArrivals(0, 15, 1)", day.setArrivals(0, 15, 1), Days.BAD_VALUE);
        DUE.is("setArrivals(0, 0, -1)", day.setArrivals(0, 0, -1), Days.BAD_VALUE);
        DUE.is("setArrivals(0, 0, 501)", day.setArrivals(0, 0, 501), Days.BAD_VALUE);
        DUE.is("setArrivals(0, 0, 0)", day.setArrivals(0, 0, 0), Days.NONE);
        DUE.is("setArrivals(0, 15, 0) BAD_VALUE ahead of NONE", day.setArrivals(0, 15, 0), Days.BAD_VALUE);
        DUE.is("count(14)", day.count(14), 1);
        DUE.is("setArrivals(0, 0, 500)", day.setArrivals(0, 0, 500), 0);
        DUE.is("setArrivals(0, 0, 500)", day.setArrivals(0, 0, 500), Days.NONE);
        DUE.is("setArrivals(0, 0, 1)", day.setArrivals(0, 0, 1), 500);
        DUE.is("setArrivals(0, 14, 500)", day.setArrivals(0, 14, 500), 0);
        DUE.is("count(14)", day.count(14), 4);
        day.pass(2);
        DUE.is("setArrivals(0, 1, 3) when it is over", day.setArrivals(0, 1, 3), Days.BAD_VALUE);
        DUE.is("setArrivals(0, 0, 1) when it is over, so already", day.setArrivals(0, 0, 1), Days.BAD_VALUE);
        DUE.is("setArrivals(0, 2, 3) in the present hour", day.setArrivals(0, 2, 3), 0);
        day.pass(13);
        DUE.is("setArrivals(0, 14, 3) at 15", day.setArrivals(0, 14, 3), Days.BAD_VALUE);
        DUE.is("setArrivals(0, 15, 3) at 15", day.setArrivals(0, 15, 3), Days.BAD_VALUE);
    }

    private static void promise5Assign() {
        PaperStations day = Days.withStations(2);
        day.addClerk(10, 2);
        day.addClerk(20, 2);
        DUE.is("assign(2, 0)", day.assign(2, 0), Days.UNKNOWN);
        DUE.is("assign(-1, 0)", day.assign(-1, 0), Days.UNKNOWN);
        DUE.is("assign(0, 2)", day.assign(0, 2), Days.UNKNOWN);
        DUE.is("assign(0, -1)", day.assign(0, -1), Days.UNKNOWN);
        DUE.is("assign(1, 1)", day.assign(1, 1), 1);
        DUE.is("clerk(1, 2)", day.clerk(1, 2), 1);
        DUE.is("clerk(1, 3)", day.clerk(1, 3), 0);
        DUE.is("assign(0, 1)", day.assign(0, 1), 2);
        DUE.is("assign(0, 1) on duty", day.assign(0, 1), Days.NOT_POSSIBLE);
        DUE.is("assign(0, 0) on duty", day.assign(0, 0), Days.NOT_POSSIBLE);
        DUE.is("assign(0, 2) UNKNOWN ahead of NOT_POSSIBLE", day.assign(0, 2), Days.UNKNOWN);
        DUE.is("undo()", day.undo(), 3);
        DUE.is("clerk(0, 2) undone", day.clerk(0, 2), Days.NONE);
        day.relieve(1);
        DUE.is("assign(1, 0) resting", day.assign(1, 0), Days.NOT_POSSIBLE);
        day.pass(1);
        DUE.is("assign(1, 0) rested", day.assign(1, 0), 1);
    }

    private static void promise6Relieve() {
        PaperStations day = Days.withStations(1);
        day.addClerk(10, 4);
        DUE.is("relieve(1)", day.relieve(1), Days.UNKNOWN);
        DUE.is("relieve(-1)", day.relieve(-1), Days.UNKNOWN);
        DUE.is("relieve(0) not on duty", day.relieve(0), Days.NONE);
        DUE.is("count(14)", day.count(14), 2);
        day.assign(0, 0);
        DUE.is("relieve(0) at once", day.relieve(0), 0);
        DUE.is("count(14)", day.count(14), 4);
        DUE.is("clerk(0, 5)", day.clerk(0, 5), 1);
        DUE.is("clerk(0, 6)", day.clerk(0, 6), Days.NONE);
        DUE.is("relieve(0) resting", day.relieve(0), Days.NONE);
        day.pass(1);
        DUE.is("clerk(0, 5) behind the hour", day.clerk(0, 5), 0);
        DUE.is("clerk(0, 4) behind the hour", day.clerk(0, 4), 0);
        day.assign(0, 0);
        day.pass(3);
        DUE.is("clerk(0, 3)", day.clerk(0, 3), 3);
        DUE.is("relieve(0)", day.relieve(0), 3);
        DUE.is("clerk(0, 3)", day.clerk(0, 3), 0);
        DUE.is("clerk(0, 2)", day.clerk(0, 2), Days.NONE);
        DUE.is("clerk(0, 4)", day.clerk(0, 4), 3);
        DUE.is("undo()", day.undo(), 3);
        DUE.is("clerk(0, 3) undone", day.clerk(0, 3), 3);
        DUE.is("clerk(0, 5) undone", day.clerk(0, 5), 0);
    }

    private static void promise7Pass() {
        PaperStations day = new PaperStations();
        DUE.is("pass(0)", day.pass(0), Days.BAD_VALUE);
        DUE.is("pass(-1)", day.pass(-1), Days.BAD_VALUE);
        DUE.is("pass(19)", day.pass(19), Days.BAD_VALUE);
        DUE.is("pass(max)", day.pass(Integer.MAX_VALUE), Days.BAD_VALUE);
        DUE.is("count(14)", day.count(14), 0);
        DUE.is("pass(18)", day.pass(18), 0);
        DUE.is("one act", day.count(14), 1);
        DUE.is("count(0)", day.count(0), 18);
        DUE.is("pass(1) at 18", day.pass(1), Days.NOT_POSSIBLE);
        DUE.is("pass(19) at 18", day.pass(19), Days.BAD_VALUE);
        DUE.is("pass(18) at 18", day.pass(18), Days.NOT_POSSIBLE);
        DUE.is("undo()", day.undo(), 0);
        DUE.is("count(0)", day.count(0), 0);
        day.pass(10);
        DUE.is("pass(9) at 10", day.pass(9), Days.NOT_POSSIBLE);
        DUE.is("count(0)", day.count(0), 10);
        DUE.is("pass(8) at 10", day.pass(8), 0);
        PaperStations late = Days.withStations(1);
        late.setArrivals(0, 14, 9);
        late.pass(14);
        DUE.is("queue ahead of the hour 14", late.station(0, 0), 0);
        late.pass(1);
        DUE.is("queue behind the hour 14", late.station(0, 0), 9);
        late.pass(3);
        DUE.is("nobody arrives from 15 on", late.station(0, 0), 9);
    }

    private static void promise7ServesTheLeast() {
        PaperStations day = Days.withStations(3);
        day.addClerk(10, 6);
        day.addClerk(5, 6);
        day.addClerk(50, 6);
        day.setArrivals(0, 0, 20);
        day.setArrivals(1, 0, 20);
        day.setArrivals(2, 0, 20);
        day.supply(0, 100);
        day.supply(1, 7);
        day.assign(0, 0);
        day.assign(1, 0);
        day.assign(2, 1);
        DUE.is("pass(1)", day.pass(1), 22);
        DUE.is("station 0 by its clerks", day.station(0, 2), 15);
        DUE.is("station 1 by its papers", day.station(1, 2), 7);
        DUE.is("station 2 without clerks", day.station(2, 2), 0);
        DUE.is("queue of station 0", day.station(0, 0), 5);
        DUE.is("stock of station 0", day.papers(0, 0), 85);
        DUE.is("issued by station 0", day.papers(0, 1), 15);
        DUE.is("box of station 0", day.papers(0, 5), 15);
        DUE.is("stock of station 1", day.papers(1, 0), 0);
        DUE.is("pass(2) by the queue", day.pass(2), 5);
        DUE.is("pass(1) with an empty queue", day.pass(1), 0);
        DUE.is("hours worked without a queue too", day.count(13), 12);
    }

    private static void promise7Waiting() {
        PaperStations day = Days.withStations(1);
        day.addClerk(10, 6);
        day.setArrivals(0, 0, 25);
        day.setArrivals(0, 1, 4);
        day.supply(0, 100);
        day.assign(0, 0);
        day.pass(1);
        DUE.is("longest queue at the end of the hour", day.station(0, 1), 15);
        DUE.is("hours waited", day.station(0, 3), 15);
        day.pass(1);
        DUE.is("queue", day.station(0, 0), 9);
        DUE.is("longest queue stays", day.station(0, 1), 15);
        DUE.is("hours waited", day.station(0, 3), 24);
        DUE.is("pass(2)", day.pass(2), 9);
        DUE.is("hours waited", day.station(0, 3), 24);
    }

    private static void promise7ChangesOfClerks() {
        PaperStations day = Days.withStations(2);
        day.addClerk(10, 2);
        day.addClerk(20, 6);
        day.addClerk(30, 6);
        day.assign(0, 1);
        day.pass(2);
        DUE.is("still on duty when the run is full", day.clerk(0, 2), 1);
        DUE.is("run", day.clerk(0, 3), 2);
        day.pass(1);
        DUE.is("left", day.clerk(0, 2), Days.NONE);
        DUE.is("rests", day.clerk(0, 5), 1);
        DUE.is("worked", day.clerk(0, 4), 2);
        DUE.is("the first free one came to the same station", day.clerk(1, 2), 1);
        DUE.is("and served in that hour", day.clerk(1, 4), 1);
        DUE.is("with a run of one", day.clerk(1, 3), 1);
        DUE.is("the other one did not", day.clerk(2, 2), Days.NONE);
        PaperStations alone = Days.withStations(1);
        alone.addClerk(10, 1);
        alone.setArrivals(0, 0, 100);
        alone.supply(0, 100);
        alone.assign(0, 0);
        DUE.is("pass(2) without a relief", alone.pass(2), 10);
        DUE.is("nobody came", alone.station(0, 4), 0);
        DUE.is("pass(1): who rested comes by assign alone", alone.pass(1), 0);
        DUE.is("free", alone.count(4), 1);
        DUE.is("on duty", alone.count(3), 0);
    }

    private static void promise7OrderOfChanges() {
        PaperStations day = Days.withStations(2);
        day.addClerk(1, 1);
        day.addClerk(1, 1);
        day.addClerk(1, 6);
        day.addClerk(1, 6);
        day.assign(2, 0);
        day.pass(1);
        day.relieve(2);
        day.pass(1);
        day.assign(0, 1);
        day.assign(1, 0);
        day.pass(1);
        day.pass(1);
        DUE.is("the one who worked the least relieves the lowest number", day.clerk(3, 2), 1);
        DUE.is("the next one relieves the next", day.clerk(2, 2), 0);
        PaperStations spare = Days.withStations(2);
        spare.addClerk(1, 1);
        spare.addClerk(1, 1);
        spare.addClerk(1, 6);
        spare.assign(0, 0);
        spare.assign(1, 1);
        spare.pass(2);
        DUE.is("the lowest number is relieved first", spare.clerk(2, 2), 0);
        DUE.is("for the second nobody is left", spare.station(1, 4), 0);
    }

    private static void promise7Rests() {
        PaperStations day = Days.withStations(1);
        day.addClerk(1, 1);
        day.addClerk(1, 1);
        day.assign(0, 0);
        day.pass(2);
        DUE.is("who left in an hour rests behind it", day.clerk(0, 5), 1);
        DUE.is("and is not free in the change of the next hour", day.count(4), 0);
        day.pass(1);
        DUE.is("so nobody relieves", day.station(0, 4), 0);
        DUE.is("and rests no more behind that", day.clerk(0, 5), 0);
        DUE.is("the other one rests then", day.clerk(1, 5), 1);
        DUE.is("assign(0, 0)", day.assign(0, 0), 1);
        day.pass(1);
        DUE.is("the other one does not rest any more", day.clerk(1, 5), 0);
        PaperStations relieved = Days.withStations(1);
        relieved.addClerk(1, 1);
        relieved.addClerk(1, 6);
        relieved.assign(0, 0);
        relieved.assign(1, 0);
        relieved.pass(1);
        relieved.relieve(1);
        relieved.pass(1);
        DUE.is("a relieved clerk is not free in the change", relieved.station(0, 4), 0);
        DUE.is("but behind the hour", relieved.clerk(1, 5), 0);
    }
}
