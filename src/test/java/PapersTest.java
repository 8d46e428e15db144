/** Promises 8 to 13. */
public final class PapersTest {
    private static final Due DUE = new Due("PapersTest");

    public static void main(String[] args) {
        promise8Supply();
        promise9MovePapers();
        promise10Spoil();
        promise11CarryOff();
        promise12Find();
        promise13CountBox();
        DUE.end();
    }

    private static void promise8Supply() {
        PaperStations day = Days.withStations(2);
        DUE.is("supply(2, 0)", day.supply(2, 0), Days.UNKNOWN);
        DUE.is("supply(-1, 5)", day.supply(-1, 5), Days.UNKNOWN);
        DUE.is("supply(0, 0)", day.supply(0, 0), Days.BAD_VALUE);
        DUE.is("supply(0, 10000)", day.supply(0, 10000), Days.BAD_VALUE);
        DUE.is("supply(0, max)", day.supply(0, Integer.MAX_VALUE), Days.BAD_VALUE);
        DUE.is("count(14)", day.count(14), 2);
        DUE.is("supply(0, 9998)", day.supply(0, 9998), 9998);
        DUE.is("supply(0, 2)", day.supply(0, 2), Days.FULL);
        DUE.is("supply(0, 0) BAD_VALUE ahead of FULL", day.supply(0, 0), Days.BAD_VALUE);
        DUE.is("papers(0, 0)", day.papers(0, 0), 9998);
        DUE.is("supply(0, 1)", day.supply(0, 1), 9999);
        DUE.is("supply(1, 9999)", day.supply(1, 9999), 9999);
        DUE.is("undo()", day.undo(), 3);
        DUE.is("papers(1, 0)", day.papers(1, 0), 0);
        DUE.is("papers(0, 0)", day.papers(0, 0), 9999);
    }

    private static void promise9MovePapers() {
        PaperStations day = Days.withStations(2);
        day.supply(0, 100);
        day.supply(1, 9990);
        DUE.is("movePapers(2, 0, 0)", day.movePapers(2, 0, 0), Days.UNKNOWN);
        DUE.is("movePapers(0, 2, 1)", day.movePapers(0, 2, 1), Days.UNKNOWN);
        DUE.is("movePapers(-1, -1, 1)", day.movePapers(-1, -1, 1), Days.UNKNOWN);
        DUE.is("movePapers(0, 1, 0)", day.movePapers(0, 1, 0), Days.BAD_VALUE);
        DUE.is("movePapers(0, 1, 10000)", day.movePapers(0, 1, 10000), Days.BAD_VALUE);
        DUE.is("movePapers(0, 0, 1)", day.movePapers(0, 0, 1), Days.BAD_VALUE);
        DUE.is("movePapers(0, 0, 101)", day.movePapers(0, 0, 101), Days.BAD_VALUE);
        DUE.is("movePapers(0, 1, 101) NOT_POSSIBLE ahead of FULL", day.movePapers(0, 1, 101), Days.NOT_POSSIBLE);
        DUE.is("movePapers(0, 1, 10)", day.movePapers(0, 1, 10), Days.FULL);
        DUE.is("count(14)", day.count(14), 4);
        DUE.is("count(7)", day.count(7), 10090);
        DUE.is("movePapers(0, 1, 9)", day.movePapers(0, 1, 9), 91);
        DUE.is("papers(1, 0)", day.papers(1, 0), 9999);
        DUE.is("movePapers(1, 0, 9)", day.movePapers(1, 0, 9), 9990);
        DUE.is("movePapers(1, 0, 9899)", day.movePapers(1, 0, 9899), 91);
        DUE.is("papers(0, 0)", day.papers(0, 0), 9999);
        DUE.is("undo()", day.undo(), 3);
        DUE.is("papers(0, 0)", day.papers(0, 0), 100);
        DUE.is("movePapers(0, 1, 100) is FULL", day.movePapers(0, 1, 100), Days.FULL);
        DUE.is("papers(1, 0)", day.papers(1, 0), 9990);
    }

    private static void promise10Spoil() {
        PaperStations day = Days.afterOneHour();
        DUE.is("spoil(2, 1)", day.spoil(2, 1), Days.UNKNOWN);
        DUE.is("spoil(-1, 0)", day.spoil(-1, 0), Days.UNKNOWN);
        DUE.is("spoil(0, 0)", day.spoil(0, 0), Days.BAD_VALUE);
        DUE.is("spoil(0, 10000)", day.spoil(0, 10000), Days.BAD_VALUE);
        DUE.is("spoil(0, 31) more than the box", day.spoil(0, 31), Days.NOT_POSSIBLE);
        DUE.is("spoil(0, 30)", day.spoil(0, 30), 40);
        DUE.is("issued", day.papers(0, 1), 60);
        DUE.is("spoilt", day.papers(0, 2), 30);
        DUE.is("box", day.papers(0, 5), 30);
        DUE.is("served", day.station(0, 2), 30);
        DUE.is("spoil(0, 30)", day.spoil(0, 30), 10);
        DUE.is("spoil(0, 11) more than the stock", day.spoil(0, 11), Days.NOT_POSSIBLE);
        DUE.is("spoil(0, 10)", day.spoil(0, 10), 0);
        DUE.is("spoil(0, 1) without a stock", day.spoil(0, 1), Days.NOT_POSSIBLE);
        DUE.is("spoilt", day.papers(0, 2), 70);
        DUE.is("undo()", day.undo(), 3);
        DUE.is("spoilt", day.papers(0, 2), 60);
    }

    private static void promise11CarryOff() {
        PaperStations day = Days.afterOneHour();
        DUE.is("carryOff(2, 0)", day.carryOff(2, 0), Days.UNKNOWN);
        DUE.is("carryOff(0, 0)", day.carryOff(0, 0), Days.BAD_VALUE);
        DUE.is("carryOff(0, 10000)", day.carryOff(0, 10000), Days.BAD_VALUE);
        DUE.is("carryOff(0, 31)", day.carryOff(0, 31), Days.NOT_POSSIBLE);
        DUE.is("carryOff(1, 1)", day.carryOff(1, 1), Days.NOT_POSSIBLE);
        DUE.is("carryOff(0, 10)", day.carryOff(0, 10), 20);
        DUE.is("carried off", day.papers(0, 3), 10);
        DUE.is("box", day.papers(0, 5), 20);
        DUE.is("issued", day.papers(0, 1), 30);
        DUE.is("stock", day.papers(0, 0), 70);
        DUE.is("carryOff(0, 20)", day.carryOff(0, 20), 0);
        DUE.is("carried off", day.papers(0, 3), 30);
        DUE.is("spoil(0, 1) with an empty box", day.spoil(0, 1), Days.NOT_POSSIBLE);
        DUE.is("undo()", day.undo(), 3);
        DUE.is("box", day.papers(0, 5), 20);
    }

    private static void promise12Find() {
        PaperStations day = Days.afterOneHour();
        DUE.is("find(0, 1)", day.find(0, 1), Days.NOT_POSSIBLE);
        day.carryOff(0, 12);
        DUE.is("find(2, 0)", day.find(2, 0), Days.UNKNOWN);
        DUE.is("find(-1, 1)", day.find(-1, 1), Days.UNKNOWN);
        DUE.is("find(0, 0)", day.find(0, 0), Days.BAD_VALUE);
        DUE.is("find(0, 10000)", day.find(0, 10000), Days.BAD_VALUE);
        DUE.is("find(0, 13)", day.find(0, 13), Days.NOT_POSSIBLE);
        DUE.is("find(0, 5)", day.find(0, 5), 7);
        DUE.is("found", day.papers(0, 4), 5);
        DUE.is("carried off still", day.papers(0, 3), 7);
        DUE.is("box", day.papers(0, 5), 18);
        DUE.is("stock", day.papers(0, 0), 70);
        DUE.is("find(0, 8)", day.find(0, 8), Days.NOT_POSSIBLE);
        DUE.is("find(0, 7)", day.find(0, 7), 0);
        DUE.is("found", day.papers(0, 4), 12);
        DUE.is("undo()", day.undo(), 3);
        DUE.is("found", day.papers(0, 4), 5);
        DUE.is("carried off still", day.papers(0, 3), 7);
    }

    private static void promise13CountBox() {
        PaperStations day = Days.afterOneHour();
        DUE.is("countBox(2, -1)", day.countBox(2, -1), Days.UNKNOWN);
        DUE.is("countBox(0, -1)", day.countBox(0, -1), Days.BAD_VALUE);
        DUE.is("countBox(0, 100000)", day.countBox(0, 100000), Days.BAD_VALUE);
        day.carryOff(0, 3);
        day.setArrivals(1, 5, 1);
        day.pass(13);
        DUE.is("countBox(0, 1) at 14 without a queue", day.countBox(0, 1), Days.NOT_POSSIBLE);
        day.pass(1);
        DUE.is("countBox(1, 1) with one in the queue", day.countBox(1, 1), Days.NOT_POSSIBLE);
        DUE.is("countBox(1, 100000) BAD_VALUE ahead of it", day.countBox(1, 100000), Days.BAD_VALUE);
        DUE.is("countBox(0, 0)", day.countBox(0, 0), 1);
        DUE.is("latest count", day.papers(0, 6), 0);
        DUE.is("difference", day.papers(0, 7), 100000 - 37);
        DUE.is("countBox(0, 37)", day.countBox(0, 37), 2);
        DUE.is("latest count", day.papers(0, 6), 37);
        DUE.is("difference", day.papers(0, 7), 100000);
        DUE.is("undo()", day.undo(), 3);
        DUE.is("latest count", day.papers(0, 6), 0);
        DUE.is("counted", day.papers(0, 8), 1);
        DUE.is("countBox(0, 99999)", day.countBox(0, 99999), 2);
        DUE.is("countBox(0, 99999) the same is an act too", day.countBox(0, 99999), 3);
        DUE.is("difference", day.papers(0, 7), 199999 - 37);
        DUE.is("countBox(0, 1) the fourth", day.countBox(0, 1), Days.FULL);
        DUE.is("countBox(0, -1) BAD_VALUE ahead of FULL", day.countBox(0, -1), Days.BAD_VALUE);
        DUE.is("latest count", day.papers(0, 6), 99999);
        DUE.is("count(14)", day.count(14), 4);
    }
}
