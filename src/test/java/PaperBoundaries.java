import java.util.function.Supplier;

/** The boundary cases of promises 8 to 13. */
final class PaperBoundaries {
    private static final String STATION = "- `station`: a station";
    private static final String PAPERS = "- `papers`: 1 to 9999";

    private final Sentences doc;

    PaperBoundaries(Sentences doc) {
        this.doc = doc;
    }

    void run() {
        runStock();
        runBox();
        doc.under("Promise 13: countBox");
        doc.test("Notes a count of the papers in the box of a station, in place of an earlier one.", this::notesCount);
        doc.test("This is an act.", this::countBoxIsAct);
        doc.test(STATION, () -> stations((day, station) -> day.countBox(station, 1), atFifteen()));
        doc.test("- `papers`: 0 to 99999", this::countBoxPapers);
        doc.test("Returns how often its box was counted so far; UNKNOWN; BAD_VALUE; NOT_POSSIBLE before the hour 15, or"
            + " while its queue has people; FULL if it was counted 3 times.", this::countBoxReturns);
    }

    private void runStock() {
        doc.under("Promise 8: supply");
        doc.test("Supplies a station with papers.", this::supplies);
        doc.test("This is an act.", this::supplyIsAct);
        doc.test(STATION, () -> stations((day, station) -> day.supply(station, 1), () -> Days.begun(6, 0)));
        doc.test(PAPERS, this::supplyPapers);
        doc.test("Returns its stock then; UNKNOWN; BAD_VALUE; FULL if it would be more than 9999.", this::supplyReturns);
        doc.under("Promise 9: movePapers");
        doc.test("Moves papers from the stock of a station to that of another one.", this::movesPapers);
        doc.test("This is an act.", this::movePapersIsAct);
        doc.test("- `from`: a station", () -> stations((day, from) -> day.movePapers(from, 3, 1), stocked()));
        doc.test("- `to`: a station", () -> stations((day, to) -> day.movePapers(3, to, 1), stocked()));
        doc.test(PAPERS, this::movePapersPapers);
        doc.test("Returns the stock of the first one then; UNKNOWN; BAD_VALUE (papers, or both are the same);"
            + " NOT_POSSIBLE if it has not so many; FULL if that of the other one would be more than 9999.",
            this::movePapersReturns);
    }

    private void runBox() {
        doc.under("Promise 10: spoil");
        doc.test("Notes that papers are spoilt.", this::spoils);
        doc.test("This is an act.", this::spoilIsAct);
        doc.test(STATION, () -> stations((day, station) -> day.spoil(station, 1), served(9)));
        doc.test(PAPERS, this::spoilPapers);
        doc.test("Returns its stock then; UNKNOWN; BAD_VALUE; NOT_POSSIBLE if its box has not so many papers, or its"
            + " stock has not.", this::spoilReturns);
        doc.under("Promise 11: carryOff");
        doc.test("Notes that papers were carried off, and are not in the box.", this::carriesOff);
        doc.test("This is an act.", this::carryOffIsAct);
        doc.test(STATION, () -> stations((day, station) -> day.carryOff(station, 1), served(9)));
        doc.test(PAPERS, this::carryOffPapers);
        doc.test("Returns the papers in its box then; UNKNOWN; BAD_VALUE; NOT_POSSIBLE if its box has not so many.",
            this::carryOffReturns);
        doc.under("Promise 12: find");
        doc.test("Notes that papers are found that were carried off.", this::finds);
        doc.test("This is an act.", this::findIsAct);
        doc.test(STATION, () -> stations((day, station) -> day.find(station, 1), carried()));
        doc.test(PAPERS, this::findPapers);
        doc.test("Returns the papers that are still carried off; UNKNOWN; BAD_VALUE; NOT_POSSIBLE if not so many are.",
            this::findReturns);
    }

    /** Six stations: the call must be possible at the first and the last, and unknown outside. */
    private void stations(Sentences.Asked asked, Supplier<PaperStations> six) {
        doc.holds("the first station", asked.of(six.get(), 0) >= 0);
        doc.holds("the last station", asked.of(six.get(), 5) >= 0);
        doc.refusesEach("station", Days.UNKNOWN, six, asked, Sentences.outside(0, 5));
        doc.refusesEach("station without any", Days.UNKNOWN, () -> Days.begun(0, 1), asked, 0, 1, 5);
    }

    /** Each of six stations has served 10 people; its queue is empty, its box has 10, its stock the rest. */
    private static Supplier<PaperStations> served(int stock) {
        return () -> {
            PaperStations day = Days.begun(6, 6);
            for (int station = 0; station < 6; station++) {
                day.setArrivals(station, 0, 10);
                day.supply(station, 10 + stock);
                day.assign(station, station);
            }
            day.pass(1);
            return day;
        };
    }

    private static Supplier<PaperStations> carried() {
        return () -> {
            PaperStations day = served(9).get();
            for (int station = 0; station < 6; station++) {
                day.carryOff(station, 6);
            }
            return day;
        };
    }

    private static Supplier<PaperStations> stocked() {
        return () -> {
            PaperStations day = Days.begun(6, 1);
            for (int station = 0; station < 6; station++) {
                day.supply(station, 5 + station);
            }
            return day;
        };
    }

    private static Supplier<PaperStations> atFifteen() {
        return Told.then(served(9), day -> day.pass(14));
    }

    private static PaperStations twoStocks(int first, int second) {
        PaperStations day = Days.begun(2, 1);
        if (first > 0) {
            day.supply(0, first);
        }
        if (second > 0) {
            day.supply(1, second);
        }
        return day;
    }

    private void papersAre(PaperStations day, int... want) {
        int[] told = new int[6];
        for (int what = 0; what < told.length; what++) {
            told[what] = day.papers(0, what);
        }
        doc.areNumbers("stock, issued, spoilt, carried off, found, box", told, want);
    }

    private void supplies() {
        PaperStations day = Days.begun(2, 0);
        day.supply(0, 9999);
        papersAre(day, 9999, 0, 0, 0, 0, 0);
        doc.is("the other station's stock", day.papers(1, 0), 0);
    }

    private void supplyIsAct() {
        doc.isAct("supply(0, 1)", () -> Days.begun(1, 1), day -> day.supply(0, 1));
        doc.isAct("supply(0, 9999)", () -> Days.begun(1, 0), day -> day.supply(0, 9999));
    }

    private void supplyPapers() {
        for (int papers : new int[] {1, 2, 9998, 9999}) {
            doc.is("supply(0, " + papers + ")", Days.begun(1, 0).supply(0, papers), papers);
        }
        doc.refusesEach("supply(0, papers)", Days.BAD_VALUE, () -> Days.begun(1, 0), (day, papers) -> day.supply(0, papers),
            Sentences.outside(1, 9999));
    }

    private void supplyReturns() {
        PaperStations day = Days.begun(2, 0);
        doc.is("its stock then", day.supply(1, 9997), 9997);
        doc.is("its stock then", day.supply(1, 1), 9998);
        doc.is("its stock then: the greatest", day.supply(1, 1), 9999);
        Supplier<PaperStations> full = () -> twoStocks(9999, 9000);
        doc.refuses("UNKNOWN", Days.UNKNOWN, full, x -> x.supply(2, 1));
        doc.refuses("BAD_VALUE", Days.BAD_VALUE, full, x -> x.supply(1, 0));
        doc.refuses("FULL: 10000 by one", Days.FULL, full, x -> x.supply(0, 1));
        doc.refuses("FULL: 10000 by a thousand", Days.FULL, full, x -> x.supply(1, 1000));
        doc.refuses("FULL: by the most", Days.FULL, full, x -> x.supply(0, 9999));
        doc.is("9999 by 999", full.get().supply(1, 999), 9999);
        doc.refuses("UNKNOWN ahead of BAD_VALUE", Days.UNKNOWN, full, x -> x.supply(2, 0));
        doc.refuses("BAD_VALUE (too many) ahead of FULL", Days.BAD_VALUE, full, x -> x.supply(0, 10000));
        doc.refuses("BAD_VALUE (none) with a full stock", Days.BAD_VALUE, full, x -> x.supply(0, 0));
    }

    private void movesPapers() {
        PaperStations day = Days.begun(3, 0);
        day.supply(0, 10);
        day.movePapers(0, 2, 4);
        doc.areNumbers("stocks", new int[] {day.papers(0, 0), day.papers(1, 0), day.papers(2, 0)}, 6, 0, 4);
        day.movePapers(2, 0, 4);
        doc.areNumbers("stocks", new int[] {day.papers(0, 0), day.papers(1, 0), day.papers(2, 0)}, 10, 0, 0);
        papersAre(day, 10, 0, 0, 0, 0, 0);
    }

    private void movePapersIsAct() {
        doc.isAct("movePapers(0, 1, 1)", () -> twoStocks(1, 0), day -> day.movePapers(0, 1, 1));
        doc.isAct("movePapers(5, 0, 10)", stocked(), day -> day.movePapers(5, 0, 10));
    }

    private void movePapersPapers() {
        for (int papers : new int[] {1, 2, 9998, 9999}) {
            doc.is("movePapers(0, 1, " + papers + ")", twoStocks(9999, 0).movePapers(0, 1, papers), 9999 - papers);
        }
        doc.refusesEach("movePapers(0, 1, papers)", Days.BAD_VALUE, () -> twoStocks(9999, 0),
            (day, papers) -> day.movePapers(0, 1, papers), Sentences.outside(1, 9999));
    }

    private void movePapersReturns() {
        doc.is("the stock of the first one then: 1", twoStocks(5, 0).movePapers(0, 1, 4), 1);
        doc.is("the stock of the first one then: 0", twoStocks(5, 0).movePapers(0, 1, 5), 0);
        doc.is("the other one becomes 9999", twoStocks(5, 9995).movePapers(0, 1, 4), 1);
        Supplier<PaperStations> made = () -> twoStocks(5, 9995);
        doc.refuses("UNKNOWN (from)", Days.UNKNOWN, made, x -> x.movePapers(2, 1, 1));
        doc.refuses("UNKNOWN (to)", Days.UNKNOWN, made, x -> x.movePapers(0, 2, 1));
        doc.refuses("BAD_VALUE (papers)", Days.BAD_VALUE, made, x -> x.movePapers(1, 0, 0));
        doc.refuses("BAD_VALUE (both are the same)", Days.BAD_VALUE, made, x -> x.movePapers(0, 0, 1));
        doc.refuses("BAD_VALUE (both are the same, all papers)", Days.BAD_VALUE, made, x -> x.movePapers(0, 0, 5));
        doc.refuses("NOT_POSSIBLE: one more than it has", Days.NOT_POSSIBLE, () -> twoStocks(5, 0),
            x -> x.movePapers(0, 1, 6));
        doc.refuses("NOT_POSSIBLE: it has none", Days.NOT_POSSIBLE, () -> twoStocks(0, 5), x -> x.movePapers(0, 1, 1));
        doc.refuses("FULL: 10000", Days.FULL, made, x -> x.movePapers(0, 1, 5));
        doc.refuses("FULL: by one", Days.FULL, () -> twoStocks(5, 9999), x -> x.movePapers(0, 1, 1));
        doc.refuses("UNKNOWN ahead of BAD_VALUE (papers)", Days.UNKNOWN, made, x -> x.movePapers(0, 2, 0));
        doc.refuses("UNKNOWN ahead of BAD_VALUE (the same)", Days.UNKNOWN, made, x -> x.movePapers(2, 2, 1));
        doc.refuses("UNKNOWN ahead of BAD_VALUE (the same)", Days.UNKNOWN, made, x -> x.movePapers(-1, -1, 1));
        doc.refuses("UNKNOWN (to) ahead of NOT_POSSIBLE", Days.UNKNOWN, made, x -> x.movePapers(0, -1, 6));
        doc.refuses("BAD_VALUE (papers) ahead of NOT_POSSIBLE", Days.BAD_VALUE, made, x -> x.movePapers(1, 0, 10000));
        doc.refuses("BAD_VALUE (the same) ahead of NOT_POSSIBLE", Days.BAD_VALUE, made, x -> x.movePapers(0, 0, 6));
        doc.refuses("BAD_VALUE (the same) ahead of FULL", Days.BAD_VALUE, made, x -> x.movePapers(1, 1, 9995));
        doc.refuses("BAD_VALUE (papers) ahead of FULL", Days.BAD_VALUE, () -> twoStocks(9999, 9999),
            x -> x.movePapers(0, 1, 10000));
        doc.refuses("NOT_POSSIBLE ahead of FULL", Days.NOT_POSSIBLE, made, x -> x.movePapers(0, 1, 6));
    }

    private void spoils() {
        PaperStations day = served(9).get();
        day.spoil(0, 3);
        papersAre(day, 6, 13, 3, 0, 0, 10);
        doc.is("the other station's spoilt ones", day.papers(1, 2), 0);
        doc.is("the other station's stock", day.papers(1, 0), 9);
    }

    private void spoilIsAct() {
        doc.isAct("spoil(0, 1)", served(9), day -> day.spoil(0, 1));
        doc.isAct("spoil(5, 9)", served(9), day -> day.spoil(5, 9));
    }

    private void spoilPapers() {
        doc.is("spoil(0, 1)", served(11).get().spoil(0, 1), 10);
        doc.is("spoil(0, 10), as many as the box has", served(11).get().spoil(0, 10), 1);
        doc.refusesEach("spoil(0, papers)", Days.BAD_VALUE, served(9), (day, papers) -> day.spoil(0, papers),
            Sentences.outside(1, 9999));
        doc.refuses("spoil(0, 9999) is within", Days.NOT_POSSIBLE, served(9), day -> day.spoil(0, 9999));
    }

    private void spoilReturns() {
        doc.is("its stock then: 8", served(9).get().spoil(0, 1), 8);
        doc.is("its stock then: 0", served(9).get().spoil(0, 9), 0);
        doc.is("its stock then: box and stock are alike", served(10).get().spoil(0, 10), 0);
        doc.refuses("UNKNOWN", Days.UNKNOWN, served(9), x -> x.spoil(6, 1));
        doc.refuses("BAD_VALUE", Days.BAD_VALUE, served(9), x -> x.spoil(0, 0));
        doc.refuses("NOT_POSSIBLE: the box has one less", Days.NOT_POSSIBLE, served(20), x -> x.spoil(0, 11));
        doc.refuses("NOT_POSSIBLE: the stock has one less", Days.NOT_POSSIBLE, served(9), x -> x.spoil(0, 10));
        doc.refuses("NOT_POSSIBLE: both have less", Days.NOT_POSSIBLE, served(9), x -> x.spoil(0, 11));
        doc.refuses("NOT_POSSIBLE: an empty stock", Days.NOT_POSSIBLE, served(0), x -> x.spoil(0, 1));
        doc.refuses("NOT_POSSIBLE: an empty box", Days.NOT_POSSIBLE, Told.then(served(9), x -> x.carryOff(0, 10)),
            x -> x.spoil(0, 1));
        doc.refuses("UNKNOWN ahead of BAD_VALUE", Days.UNKNOWN, served(9), x -> x.spoil(-1, 0));
        doc.refuses("BAD_VALUE ahead of NOT_POSSIBLE", Days.BAD_VALUE, served(0), x -> x.spoil(0, 10000));
        doc.refuses("BAD_VALUE ahead of NOT_POSSIBLE", Days.BAD_VALUE, () -> Days.begun(1, 0), x -> x.spoil(0, 0));
    }

    private void carriesOff() {
        PaperStations day = served(9).get();
        day.carryOff(0, 3);
        papersAre(day, 9, 10, 0, 3, 0, 7);
        doc.is("the other station's box", day.papers(1, 5), 10);
    }

    private void carryOffIsAct() {
        doc.isAct("carryOff(0, 1)", served(0), day -> day.carryOff(0, 1));
        doc.isAct("carryOff(5, 10)", served(0), day -> day.carryOff(5, 10));
    }

    private void carryOffPapers() {
        doc.is("carryOff(0, 1)", served(9).get().carryOff(0, 1), 9);
        doc.refusesEach("carryOff(0, papers)", Days.BAD_VALUE, served(9), (day, papers) -> day.carryOff(0, papers),
            Sentences.outside(1, 9999));
        doc.refuses("carryOff(0, 9999) is within", Days.NOT_POSSIBLE, served(9), day -> day.carryOff(0, 9999));
    }

    private void carryOffReturns() {
        doc.is("the papers in its box then: 1", served(0).get().carryOff(0, 9), 1);
        doc.is("the papers in its box then: 0", served(0).get().carryOff(0, 10), 0);
        doc.refuses("UNKNOWN", Days.UNKNOWN, served(9), x -> x.carryOff(6, 1));
        doc.refuses("BAD_VALUE", Days.BAD_VALUE, served(9), x -> x.carryOff(0, 0));
        doc.refuses("NOT_POSSIBLE: its box has one less", Days.NOT_POSSIBLE, served(9), x -> x.carryOff(0, 11));
        doc.refuses("NOT_POSSIBLE: an empty box", Days.NOT_POSSIBLE, Told.then(served(9), x -> x.carryOff(0, 10)),
            x -> x.carryOff(0, 1));
        doc.refuses("UNKNOWN ahead of BAD_VALUE", Days.UNKNOWN, served(9), x -> x.carryOff(6, 10000));
        doc.refuses("BAD_VALUE ahead of NOT_POSSIBLE", Days.BAD_VALUE, served(9), x -> x.carryOff(0, 10000));
        doc.refuses("BAD_VALUE with an empty box", Days.BAD_VALUE, () -> Days.begun(1, 0), x -> x.carryOff(0, 0));
    }

    private void finds() {
        PaperStations day = carried().get();
        day.find(0, 2);
        papersAre(day, 9, 10, 0, 4, 2, 4);
        doc.is("the other station's", day.papers(1, 4), 0);
    }

    private void findIsAct() {
        doc.isAct("find(0, 1)", carried(), day -> day.find(0, 1));
        doc.isAct("find(5, 6)", carried(), day -> day.find(5, 6));
    }

    private void findPapers() {
        doc.is("find(0, 1)", carried().get().find(0, 1), 5);
        doc.refusesEach("find(0, papers)", Days.BAD_VALUE, carried(), (day, papers) -> day.find(0, papers),
            Sentences.outside(1, 9999));
        doc.refuses("find(0, 9999) is within", Days.NOT_POSSIBLE, carried(), day -> day.find(0, 9999));
    }

    private void findReturns() {
        doc.is("still carried off: 1", carried().get().find(0, 5), 1);
        doc.is("still carried off: 0", carried().get().find(0, 6), 0);
        doc.refuses("UNKNOWN", Days.UNKNOWN, carried(), x -> x.find(6, 1));
        doc.refuses("BAD_VALUE", Days.BAD_VALUE, carried(), x -> x.find(0, 0));
        doc.refuses("NOT_POSSIBLE: one less is carried off", Days.NOT_POSSIBLE, carried(), x -> x.find(0, 7));
        doc.refuses("NOT_POSSIBLE: none was carried off", Days.NOT_POSSIBLE, served(9), x -> x.find(0, 1));
        doc.refuses("NOT_POSSIBLE: all are found", Days.NOT_POSSIBLE, Told.then(carried(), x -> x.find(0, 6)),
            x -> x.find(0, 1));
        doc.refuses("UNKNOWN ahead of BAD_VALUE", Days.UNKNOWN, carried(), x -> x.find(-1, 10000));
        doc.refuses("BAD_VALUE ahead of NOT_POSSIBLE", Days.BAD_VALUE, served(9), x -> x.find(0, 10000));
        doc.refuses("BAD_VALUE without any carried off", Days.BAD_VALUE, served(9), x -> x.find(0, 0));
    }

    private void notesCount() {
        PaperStations day = atFifteen().get();
        doc.is("the latest count at first", day.papers(0, 6), Days.NONE);
        day.countBox(0, 99999);
        doc.is("the latest count", day.papers(0, 6), 99999);
        day.countBox(0, 0);
        doc.is("in place of the earlier one", day.papers(0, 6), 0);
        day.countBox(0, 10);
        doc.is("in place of the earlier one", day.papers(0, 6), 10);
        papersAre(day, 9, 10, 0, 0, 0, 10);
        doc.is("the other station's", day.papers(1, 6), Days.NONE);
    }

    private void countBoxIsAct() {
        doc.isAct("countBox(0, 0)", atFifteen(), day -> day.countBox(0, 0));
        doc.isAct("countBox(5, 99999)", atFifteen(), day -> day.countBox(5, 99999));
        doc.isAct("countBox(0, 7) once more", Told.then(atFifteen(), day -> day.countBox(0, 7)),
            day -> day.countBox(0, 7));
        doc.isAct("countBox(0, 8) behind 7", Told.then(atFifteen(), day -> day.countBox(0, 7)),
            day -> day.countBox(0, 8));
    }

    private void countBoxPapers() {
        for (int papers : new int[] {0, 1, 99998, 99999}) {
            PaperStations day = atFifteen().get();
            doc.is("countBox(0, " + papers + ")", day.countBox(0, papers), 1);
            doc.is("papers(0, 6)", day.papers(0, 6), papers);
        }
        doc.refusesEach("countBox(0, papers)", Days.BAD_VALUE, atFifteen(), (day, papers) -> day.countBox(0, papers),
            Sentences.outside(0, 99999));
    }

    private void countBoxReturns() {
        PaperStations day = atFifteen().get();
        for (int times = 1; times <= 3; times++) {
            doc.is("how often it was counted", day.countBox(0, 4), times);
        }
        doc.is("the other one's", day.countBox(1, 4), 1);
        for (int hour = 1; hour <= 18; hour++) {
            PaperStations at = served(9).get();
            if (hour > 1) {
                at.pass(hour - 1);
            }
            doc.is("countBox(0, 1) at " + hour, at.countBox(0, 1), hour < 15 ? Days.NOT_POSSIBLE : 1);
        }
        countBoxErrors();
    }

    private void countBoxErrors() {
        Supplier<PaperStations> queue = () -> {
            PaperStations day = Days.begun(2, 1);
            day.setArrivals(0, 14, 11);
            day.supply(0, 50);
            day.pass(14);
            day.assign(0, 0);
            day.pass(1);
            return day;
        };
        Supplier<PaperStations> thrice = () -> {
            PaperStations day = atFifteen().get();
            day.countBox(0, 1);
            day.countBox(0, 2);
            day.countBox(0, 3);
            return day;
        };
        doc.refuses("UNKNOWN", Days.UNKNOWN, atFifteen(), x -> x.countBox(6, 1));
        doc.refuses("BAD_VALUE", Days.BAD_VALUE, atFifteen(), x -> x.countBox(0, 100000));
        doc.refuses("NOT_POSSIBLE at 0", Days.NOT_POSSIBLE, () -> Days.begun(1, 0), x -> x.countBox(0, 0));
        doc.refuses("NOT_POSSIBLE at 14", Days.NOT_POSSIBLE, Told.then(served(9), x -> x.pass(13)),
            x -> x.countBox(0, 10));
        doc.refuses("NOT_POSSIBLE with one in the queue", Days.NOT_POSSIBLE, queue, x -> x.countBox(0, 10));
        doc.is("the other one's queue is empty", queue.get().countBox(1, 0), 1);
        doc.is("the queue is served an hour later", Told.then(queue, x -> x.pass(1)).get().countBox(0, 11), 1);
        doc.refuses("FULL: the fourth", Days.FULL, thrice, x -> x.countBox(0, 3));
        doc.is("the other one is not full", thrice.get().countBox(1, 3), 1);
        doc.refuses("UNKNOWN ahead of BAD_VALUE", Days.UNKNOWN, atFifteen(), x -> x.countBox(-1, -1));
        doc.refuses("UNKNOWN ahead of NOT_POSSIBLE", Days.UNKNOWN, () -> Days.begun(1, 0), x -> x.countBox(1, 0));
        doc.refuses("BAD_VALUE ahead of NOT_POSSIBLE (hour)", Days.BAD_VALUE, served(9), x -> x.countBox(0, -1));
        doc.refuses("BAD_VALUE ahead of NOT_POSSIBLE (queue)", Days.BAD_VALUE, queue, x -> x.countBox(0, 100000));
        doc.refuses("BAD_VALUE ahead of FULL", Days.BAD_VALUE, thrice, x -> x.countBox(0, -1));
    }
}
