/** Days that several tests begin with. */
final class Days {
    static final int UNKNOWN = PaperStations.UNKNOWN;
    static final int BAD_VALUE = PaperStations.BAD_VALUE;
    static final int FULL = PaperStations.FULL;
    static final int NOT_POSSIBLE = PaperStations.NOT_POSSIBLE;
    static final int NONE = PaperStations.NONE;

    private Days() {
    }

    static PaperStations withStations(int stations) {
        PaperStations day = new PaperStations();
        for (int i = 0; i < stations; i++) {
            day.addStation();
        }
        return day;
    }

    /** Station 0 issued and boxed 30 papers in the first hour; its stock is 70, its queue 10. */
    static PaperStations afterOneHour() {
        PaperStations day = withStations(2);
        day.addClerk(30, 6);
        day.setArrivals(0, 0, 40);
        day.supply(0, 100);
        day.assign(0, 0);
        day.pass(1);
        return day;
    }

    /** With a snapshot without stations, and with a text: so that a change of either is told. */
    static PaperStations begun(int stations, int clerks) {
        PaperStations day = new PaperStations();
        write(day, "12,3");
        for (int i = 0; i < clerks; i++) {
            day.addClerk(10, 6);
        }
        day.keep();
        for (int i = 0; i < stations; i++) {
            day.addStation();
        }
        return day;
    }

    static void write(PaperStations day, String text) {
        day.clearText();
        for (int i = 0; i < text.length(); i++) {
            day.type(text.charAt(i));
        }
    }
}
