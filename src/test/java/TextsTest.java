/** Promises 14 to 16. */
public final class TextsTest {
    private static final Due DUE = new Due("TextsTest");

    public static void main(String[] args) {
        promise14Type();
        promise15ClearText();
        promise16Faults();
        promise16Errors();
        promise16ReadArrivals();
        promise16LongTexts();
        textIsNoState();
        DUE.end();
    }

    private static void promise14Type() {
        PaperStations day = new PaperStations();
        for (int length = 1; length <= 60; length++) {
            DUE.is("type of sign " + length, day.type((char) (length * 1000)), length);
        }
        DUE.is("type('1') the sixty-first", day.type('1'), Days.FULL);
        DUE.is("type(',') the sixty-first", day.type(','), Days.FULL);
        DUE.is("count(15)", day.count(15), 60);
        DUE.is("type is no act", day.count(14), 0);
    }

    private static void promise15ClearText() {
        PaperStations day = new PaperStations();
        DUE.is("clearText()", day.clearText(), 0);
        Days.write(day, "12,");
        DUE.is("clearText()", day.clearText(), 3);
        DUE.is("count(15)", day.count(15), 0);
        DUE.is("clearText()", day.clearText(), 0);
        DUE.is("type('7')", day.type('7'), 1);
        DUE.is("clearText is no act", day.count(14), 0);
        Days.write(day, "1".repeat(60));
        DUE.is("clearText()", day.clearText(), 60);
        DUE.is("type('7')", day.type('7'), 1);
    }

    private static void promise16Faults() {
        fault("", 0);
        fault(",", 0);
        fault("a", 0);
        fault(" 1", 0);
        fault("-1", 0);
        fault("+1", 0);
        fault("/", 0);
        fault(":", 0);
        fault("\uFF11", 0);
        fault("\u0661", 0);
        fault("\0", 0);
        fault("1,", 2);
        fault("0,", 2);
        fault("123,", 4);
        fault("1,,2", 2);
        fault("1 ,2", 1);
        fault("1, 2", 2);
        fault("00", 1);
        fault("05", 1);
        fault("1,05", 3);
        fault("1,000", 3);
        fault("1000", 3);
        fault("12,1000,x", 6);
        fault("501,", 4);
        fault("999x", 3);
        fault("1.", 1);
        fault("1;2", 1);
        fault("1,2\n", 3);
        fault("1,".repeat(30), 60);
        fault("1,".repeat(29) + "1,", 60);
        fault("1".repeat(60), 3);
        fault("111,".repeat(14) + "111x", 59);
    }

    private static void fault(String text, int fault) {
        PaperStations day = Days.withStations(1);
        Days.write(day, text);
        DUE.is("readArrivals of \"" + text + "\"", day.readArrivals(0, 0), -100 - fault);
        DUE.is("no arrivals of \"" + text + "\"", day.station(0, 6), 0);
        DUE.is("no state of \"" + text + "\"", day.count(14), 1);
        DUE.is("the text \"" + text + "\" stays", day.count(15), text.length());
    }

    private static void promise16Errors() {
        PaperStations day = Days.withStations(1);
        Days.write(day, "x");
        DUE.is("UNKNOWN ahead of all", day.readArrivals(1, 15), Days.UNKNOWN);
        DUE.is("UNKNOWN for a negative one", day.readArrivals(-1, 0), Days.UNKNOWN);
        DUE.is("BAD_VALUE (hour) ahead of the fault", day.readArrivals(0, 15), Days.BAD_VALUE);
        DUE.is("BAD_VALUE (hour) ahead of the fault", day.readArrivals(0, -1), Days.BAD_VALUE);
        Days.write(day, "1,501,");
        DUE.is("the fault ahead of BAD_VALUE of a number", day.readArrivals(0, 0), -106);
        Days.write(day, "1,2,x");
        DUE.is("the fault ahead of FULL", day.readArrivals(0, 14), -104);
        Days.write(day, "1,501");
        DUE.is("BAD_VALUE of a number ahead of FULL", day.readArrivals(0, 14), Days.BAD_VALUE);
        DUE.is("BAD_VALUE of a number", day.readArrivals(0, 0), Days.BAD_VALUE);
        Days.write(day, "999,1");
        DUE.is("BAD_VALUE of the first number", day.readArrivals(0, 0), Days.BAD_VALUE);
        Days.write(day, "1,2");
        DUE.is("FULL", day.readArrivals(0, 14), Days.FULL);
        DUE.is("none of them", day.station(0, 6), 0);
        DUE.is("no state", day.count(14), 1);
        day.pass(3);
        DUE.is("an hour that is over", day.readArrivals(0, 2), Days.BAD_VALUE);
        DUE.is("the present hour", day.readArrivals(0, 3), 2);
        day.pass(12);
        DUE.is("the hour 14 at 15", day.readArrivals(0, 14), Days.BAD_VALUE);
        DUE.is("the hour 15 at 15", day.readArrivals(0, 15), Days.BAD_VALUE);
    }

    private static void promise16ReadArrivals() {
        PaperStations day = Days.withStations(2);
        day.setArrivals(1, 2, 77);
        day.setArrivals(1, 6, 88);
        Days.write(day, "0,7,50,500");
        DUE.is("readArrivals(1, 2)", day.readArrivals(1, 2), 4);
        DUE.is("count(14): one act", day.count(14), 4);
        DUE.is("arrivals(1, 1)", day.arrivals(1, 1), 0);
        DUE.is("arrivals(1, 2)", day.arrivals(1, 2), 0);
        DUE.is("arrivals(1, 3)", day.arrivals(1, 3), 7);
        DUE.is("arrivals(1, 4)", day.arrivals(1, 4), 50);
        DUE.is("arrivals(1, 5)", day.arrivals(1, 5), 500);
        DUE.is("arrivals(1, 6)", day.arrivals(1, 6), 88);
        DUE.is("station(0, 6)", day.station(0, 6), 0);
        DUE.is("the text stays", day.count(15), 10);
        DUE.is("readArrivals(0, 11)", day.readArrivals(0, 11), 4);
        DUE.is("arrivals(0, 14)", day.arrivals(0, 14), 500);
        DUE.is("readArrivals(0, 12)", day.readArrivals(0, 12), Days.FULL);
        DUE.is("readArrivals(0, 11) again is an act", day.readArrivals(0, 11), 4);
        DUE.is("undo()", day.undo(), 3);
        DUE.is("arrivals(0, 14)", day.arrivals(0, 14), 500);
        DUE.is("undo()", day.undo(), 2);
        DUE.is("arrivals(0, 14)", day.arrivals(0, 14), 0);
        DUE.is("undo() of all numbers", day.undo(), 1);
        DUE.is("arrivals(1, 2)", day.arrivals(1, 2), 77);
        DUE.is("arrivals(1, 5)", day.arrivals(1, 5), 0);
    }

    private static void promise16LongTexts() {
        PaperStations day = Days.withStations(1);
        Days.write(day, "123," + "45,".repeat(13) + "6");
        DUE.is("fifteen numbers", day.readArrivals(0, 0), 15);
        DUE.is("arrivals(0, 0)", day.arrivals(0, 0), 123);
        DUE.is("arrivals(0, 13)", day.arrivals(0, 13), 45);
        DUE.is("arrivals(0, 14)", day.arrivals(0, 14), 6);
        DUE.is("fifteen numbers from 1", day.readArrivals(0, 1), Days.FULL);
        Days.write(day, "1,".repeat(29) + "1");
        DUE.is("thirty numbers", day.readArrivals(0, 0), Days.FULL);
        Days.write(day, "1,".repeat(28) + "501");
        DUE.is("a great one of twenty-nine", day.readArrivals(0, 0), Days.BAD_VALUE);
        Days.write(day, "500,".repeat(14) + "123");
        DUE.is("fifty-nine signs", day.readArrivals(0, 0), 15);
        Days.write(day, "12,".repeat(15) + "1");
        DUE.is("sixteen numbers", day.readArrivals(0, 0), Days.FULL);
        DUE.is("station(0, 6)", day.station(0, 6), 7123);
    }

    private static void textIsNoState() {
        PaperStations day = Days.withStations(1);
        Days.write(day, "12");
        day.keep();
        day.addStation();
        day.type('3');
        DUE.is("undo()", day.undo(), 1);
        DUE.is("undo leaves the text", day.count(15), 3);
        DUE.is("restore()", day.restore(), 0);
        DUE.is("restore leaves the text", day.count(15), 3);
        DUE.is("readArrivals(0, 0)", day.readArrivals(0, 0), 1);
        DUE.is("arrivals(0, 0)", day.arrivals(0, 0), 123);
    }
}
