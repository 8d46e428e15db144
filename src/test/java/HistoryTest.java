/** Promises 17 to 19, and which calls are acts. */
public final class HistoryTest {
    private static final Due DUE = new Due("HistoryTest");

    public static void main(String[] args) {
        promise17Undo();
        promise17DropsTheOldest();
        promise17RestoresAll();
        promise18Keep();
        promise19Restore();
        onlyActsAreRecorded();
        DUE.end();
    }

    private static void promise17Undo() {
        PaperStations day = new PaperStations();
        DUE.is("undo()", day.undo(), Days.NONE);
        day.addStation();
        day.supply(0, 5);
        day.supply(0, 6);
        DUE.is("undo()", day.undo(), 2);
        DUE.is("papers(0, 0)", day.papers(0, 0), 5);
        DUE.is("undo()", day.undo(), 1);
        DUE.is("papers(0, 0)", day.papers(0, 0), 0);
        DUE.is("undo()", day.undo(), 0);
        DUE.is("papers(0, 0)", day.papers(0, 0), Days.UNKNOWN);
        DUE.is("undo()", day.undo(), Days.NONE);
        DUE.is("count(14)", day.count(14), 0);
    }

    private static void promise17DropsTheOldest() {
        PaperStations day = Days.withStations(1);
        for (int papers = 1; papers <= 9; papers++) {
            day.supply(0, 1);
        }
        DUE.is("count(14)", day.count(14), 4);
        for (int left = 3; left >= 0; left--) {
            DUE.is("undo()", day.undo(), left);
            DUE.is("papers(0, 0)", day.papers(0, 0), 5 + left);
        }
        DUE.is("undo()", day.undo(), Days.NONE);
        DUE.is("papers(0, 0)", day.papers(0, 0), 5);
        day.supply(0, 100);
        day.supply(0, 100);
        DUE.is("undo()", day.undo(), 1);
        DUE.is("papers(0, 0)", day.papers(0, 0), 105);
        day.supply(0, 200);
        day.supply(0, 300);
        day.supply(0, 400);
        day.supply(0, 500);
        DUE.is("count(14)", day.count(14), 4);
        DUE.is("undo()", day.undo(), 3);
        DUE.is("undo()", day.undo(), 2);
        DUE.is("undo()", day.undo(), 1);
        DUE.is("undo()", day.undo(), 0);
        DUE.is("papers(0, 0)", day.papers(0, 0), 105);
    }

    private static void promise17RestoresAll() {
        PaperStations day = Days.afterOneHour();
        day.setArrivals(0, 1, 33);
        day.setArrivals(1, 1, 5);
        day.pass(7);
        day.undo();
        DUE.is("hour", day.count(0), 1);
        DUE.is("queue", day.station(0, 0), 10);
        DUE.is("longest queue", day.station(0, 1), 10);
        DUE.is("served", day.station(0, 2), 30);
        DUE.is("hours waited", day.station(0, 3), 10);
        DUE.is("clerks on duty", day.station(0, 4), 1);
        DUE.is("stock", day.papers(0, 0), 70);
        DUE.is("issued", day.papers(0, 1), 30);
        DUE.is("box", day.papers(0, 5), 30);
        DUE.is("station of the clerk", day.clerk(0, 2), 0);
        DUE.is("run", day.clerk(0, 3), 1);
        DUE.is("worked", day.clerk(0, 4), 1);
        DUE.is("rests", day.clerk(0, 5), 0);
        DUE.is("queue of the other station", day.station(1, 0), 0);
        DUE.is("arrivals of the other station", day.arrivals(1, 1), 5);
    }

    private static void promise18Keep() {
        PaperStations day = Days.withStations(1);
        day.pass(4);
        DUE.is("keep()", day.keep(), 4);
        DUE.is("keep is no act", day.count(14), 2);
        day.pass(2);
        DUE.is("keep() in place of the other", day.keep(), 6);
        day.pass(1);
        DUE.is("restore()", day.restore(), 6);
        day.undo();
        day.undo();
        DUE.is("count(0)", day.count(0), 6);
        day.undo();
        DUE.is("count(0)", day.count(0), 4);
        DUE.is("undo leaves the snapshot: restore()", day.restore(), 6);
    }

    private static void promise19Restore() {
        PaperStations day = Days.afterOneHour();
        DUE.is("restore()", day.restore(), Days.NONE);
        DUE.is("count(14)", day.count(14), 4);
        day.keep();
        day.pass(5);
        day.addStation();
        day.carryOff(0, 5);
        DUE.is("restore()", day.restore(), 1);
        DUE.is("count(1)", day.count(1), 2);
        DUE.is("station(2, 0)", day.station(2, 0), Days.UNKNOWN);
        DUE.is("papers(0, 5)", day.papers(0, 5), 30);
        DUE.is("clerk(0, 3)", day.clerk(0, 3), 1);
        DUE.is("the history stays, one more", day.count(14), 4);
        day.supply(0, 1);
        DUE.is("restore() once more", day.restore(), 1);
        DUE.is("papers(0, 0)", day.papers(0, 0), 70);
        DUE.is("undo()", day.undo(), 3);
        DUE.is("papers(0, 0)", day.papers(0, 0), 71);
        DUE.is("undo()", day.undo(), 2);
        DUE.is("undo() of a restore", day.undo(), 1);
        DUE.is("papers(0, 5)", day.papers(0, 5), 35);
        DUE.is("count(0)", day.count(0), 6);
        DUE.is("count(1)", day.count(1), 3);
        PaperStations early = new PaperStations();
        DUE.is("keep() of nothing", early.keep(), 0);
        early.addStation();
        DUE.is("restore() of nothing", early.restore(), 0);
        DUE.is("count(1)", early.count(1), 0);
        DUE.is("restore() is an act, even with no change", early.restore(), 0);
        DUE.is("count(14)", early.count(14), 3);
    }

    private static void onlyActsAreRecorded() {
        PaperStations day = new PaperStations();
        day.type('1');
        day.clearText();
        day.keep();
        for (int what = -1; what <= 16; what++) {
            day.count(what);
            day.station(0, what);
            day.papers(0, what);
            day.clerk(0, what);
            day.arrivals(0, what);
            day.free(what);
            day.busiest(what);
            day.queueIn(0, what);
            day.lacks(what);
        }
        DUE.is("count(14)", day.count(14), 0);
        day.addStation();
        day.addClerk(1, 1);
        DUE.is("count(14)", day.count(14), 2);
        day.queueIn(0, 18);
        day.lacks(0);
        DUE.is("count(14)", day.count(14), 2);
        DUE.is("undo()", day.undo(), 1);
    }
}
