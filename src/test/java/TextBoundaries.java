import java.util.function.Supplier;

/** The boundary cases of the term TEXTS and of promises 14 to 16. */
final class TextBoundaries {
    private static final int MOST = 60;
    private static final String[] FAULTLESS = {"0", "7", "10", "99", "100", "500"};

    private final Sentences doc;

    TextBoundaries(Sentences doc) {
        this.doc = doc;
    }

    void run() {
        doc.under("TEXTS");
        doc.test("There is a text of at most 60 characters, empty at first.", this::textOfSixty);
        doc.test("A text of arrivals is one or more numbers with \",\" between two, for the hours from a beginning on.",
            this::numbersBetweenCommas);
        doc.test("A number has one to three digits, without a zero in front (unless it is the single digit 0).",
            this::digitsOfNumber);
        doc.test("The fault of the text is the index, from 0, of the first character that is not allowed at its place,"
            + " or the length of the text if it ends too early (the empty text does).", this::faultOfText);
        doc.under("Promise 14: type");
        doc.test("Types a character behind the text.", this::types);
        doc.test("- `character`: any character", this::typeCharacter);
        doc.test("Returns the length of the text then; FULL if it has 60 characters.", this::typeReturns);
        doc.under("Promise 15: clearText");
        doc.test("Empties the text.", this::clears);
        doc.test("Returns the length that it had.", this::clearReturns);
        runReading();
    }

    private void runReading() {
        doc.under("Promise 16: readArrivals");
        doc.test("Tells the arrivals of the text, which stays, for a station, for an hour and those that follow; all of"
            + " them, or none.", this::readsAllOrNone);
        doc.test("This is one act.", this::readIsOneAct);
        doc.test("- `station`: a station", this::readStation);
        doc.test("- `hour`: the present hour to 14", this::readHour);
        doc.test("Returns how many there are; UNKNOWN; BAD_VALUE (hour); -100 minus the fault of the text if it has one"
            + " (which is an error); BAD_VALUE if a number is more than 500; FULL if they go beyond the hour 14.",
            this::readReturns);
    }

    private static PaperStations with(String text) {
        PaperStations day = Days.begun(2, 1);
        Days.write(day, text);
        return day;
    }

    private static PaperStations at(int hour, String text) {
        PaperStations day = with(text);
        if (hour > 0) {
            day.pass(hour);
        }
        return day;
    }

    private void fault(String text, int fault) {
        doc.is("readArrivals(0, 0) of \"" + text + "\"", with(text).readArrivals(0, 0), -100 - fault);
    }

    private void numbers(String text, int want) {
        doc.is("readArrivals(0, 0) of \"" + text + "\"", with(text).readArrivals(0, 0), want);
    }

    private void textOfSixty() {
        PaperStations day = Days.withStations(1);
        doc.is("count(15) at first", day.count(15), 0);
        doc.is("readArrivals(0, 0) at first", day.readArrivals(0, 0), -100);
        for (int length = 1; length <= MOST; length++) {
            doc.is("type('1')", day.type('1'), length);
        }
        doc.is("type('1') behind 60", day.type('1'), Days.FULL);
        doc.is("count(15)", day.count(15), MOST);
        doc.is("59 characters can be read", with("500,".repeat(14) + "500").readArrivals(0, 0), 15);
        doc.is("60 characters are read as 60", with("500,".repeat(14) + "5000").readArrivals(0, 0), -159);
        doc.is("60 characters without a fault", with("10,".repeat(19) + "100").readArrivals(0, 0), Days.FULL);
    }

    private void numbersBetweenCommas() {
        fault("", 0);
        numbers("1", 1);
        fault("1,", 2);
        fault(",1", 0);
        numbers("1,2", 2);
        fault("1,,2", 2);
        fault("1,2,", 4);
        fault("1;2", 1);
        fault("1.2", 1);
        fault("1, 2", 2);
        for (int amount = 1; amount <= 15; amount++) {
            numbers("7,".repeat(amount - 1) + "0", amount);
            fault("7,".repeat(amount), 2 * amount);
        }
        numbers("7,".repeat(15) + "0", Days.FULL);
        PaperStations day = with("1,20,300");
        doc.is("from the hour 12 on", day.readArrivals(1, 12), 3);
        doc.is("arrivals(1, 11)", day.arrivals(1, 11), 0);
        doc.is("arrivals(1, 12)", day.arrivals(1, 12), 1);
        doc.is("arrivals(1, 13)", day.arrivals(1, 13), 20);
        doc.is("arrivals(1, 14)", day.arrivals(1, 14), 300);
    }

    private void digitsOfNumber() {
        for (int number = 0; number <= 999; number++) {
            PaperStations day = with("1," + number);
            doc.is("readArrivals of 1," + number, day.readArrivals(0, 0), number <= 500 ? 2 : Days.BAD_VALUE);
            doc.is("arrivals(0, 1)", day.arrivals(0, 1), number <= 500 ? number : 0);
            fault(number + ",0" + number, String.valueOf(number).length() + 2);
        }
        fault("1000", 3);
        fault("9999", 3);
        fault("1,1000", 5);
        fault("00", 1);
        fault("000", 1);
        fault("01", 1);
        fault("010", 1);
        fault("1,00", 3);
        numbers("0", 1);
        numbers("0,0", 2);
        numbers("100", 1);
        numbers("101", 1);
    }

    private void faultOfText() {
        fault("", 0);
        for (String number : FAULTLESS) {
            fault(number + ",", number.length() + 1);
            fault(number + "x", number.length());
            fault("x" + number, 0);
            fault(number + ",x", number.length() + 1);
        }
        fault("x,y", 0);
        fault("1x,y", 1);
        everyPlaceOfALongText();
        everyCharacterAtEachKindOfPlace();
    }

    private void everyPlaceOfALongText() {
        String ends = "12,".repeat(20);
        for (int length = 0; length <= MOST; length++) {
            int want = length % 3 == 0 ? -100 - length : length > 45 ? Days.FULL : (length + 2) / 3;
            numbers(ends.substring(0, length), want);
        }
        for (int place = 0; place < MOST; place++) {
            fault(ends.substring(0, place) + "x" + ends.substring(place + 1), place);
            if (place % 3 == 0) {
                fault(ends.substring(0, place) + "," + ends.substring(place + 1), place);
                fault(ends.substring(0, place) + "0" + ends.substring(place + 1), place + 1);
            } else if (place % 3 == 2 && place < MOST - 1) {
                fault(ends.substring(0, place) + "34" + ends.substring(place + 1, MOST - 1), place + 1);
            }
        }
    }

    /** What may come: a digit at a beginning, "," behind a single 0 or three digits, either of them elsewhere. */
    private void everyCharacterAtEachKindOfPlace() {
        String[] before = {"", "0", "5", "50", "500", "1,", "1,0", "1,5", "1,50", "1,500"};
        boolean[] digitMayCome = {true, false, true, true, false, true, false, true, true, false};
        for (int kind = 0; kind < before.length; kind++) {
            boolean commaMayCome = kind % 5 != 0;
            for (char sign = 0; sign < 256; sign++) {
                boolean allowed = sign >= '0' && sign <= '9' ? digitMayCome[kind] : sign == ',' && commaMayCome;
                // Behind a comma that is allowed the text ends too early.
                int want = allowed ? before[kind].length() + 1 : before[kind].length();
                PaperStations day = with(before[kind] + sign);
                int got = day.readArrivals(0, 0);
                if (allowed && sign != ',') {
                    doc.holds("\"" + before[kind] + sign + "\" has no fault", got > -100);
                } else {
                    doc.is("\"" + before[kind] + "\" and the character " + (int) sign, got, -100 - want);
                }
            }
            for (char sign : new char[] {0x130, 0x12C, 0x660, 0xFF10, 0xFF0C, 0xD800, 0xFFFF}) {
                fault(before[kind] + sign, before[kind].length());
            }
        }
    }

    private void types() {
        PaperStations day = Days.withStations(1);
        day.type('4');
        doc.is("readArrivals of 4", day.readArrivals(0, 0), 1);
        doc.is("arrivals(0, 0)", day.arrivals(0, 0), 4);
        day.type('2');
        doc.is("readArrivals of 42", day.readArrivals(0, 0), 1);
        doc.is("behind the text: arrivals(0, 0)", day.arrivals(0, 0), 42);
        day.type(',');
        doc.is("readArrivals of 42,", day.readArrivals(0, 0), -103);
        doc.isNoAct("type('1')", () -> Days.begun(2, 1), x -> x.type('1'));
    }

    private void typeCharacter() {
        for (int sign = 0; sign <= 0xFFFF; sign += sign < 256 ? 1 : 257) {
            PaperStations day = Days.withStations(1);
            doc.is("type of the character " + sign, day.type((char) sign), 1);
            doc.is("count(15)", day.count(15), 1);
        }
        doc.is("type of the greatest character", new PaperStations().type((char) 0xFFFF), 1);
    }

    private void typeReturns() {
        PaperStations day = Days.withStations(1);
        for (int length = 1; length <= MOST; length++) {
            doc.is("the length then", day.type(length % 2 == 0 ? ',' : '8'), length);
        }
        doc.is("readArrivals of 60 characters", day.readArrivals(0, 0), -160);
        Supplier<PaperStations> full = () -> with("8,".repeat(30));
        doc.refuses("FULL: '8'", Days.FULL, full, x -> x.type('8'));
        doc.refuses("FULL: ','", Days.FULL, full, x -> x.type(','));
        PaperStations refused = with("1".repeat(57) + ",12");
        refused.type('3');
        doc.is("what is refused is not in the text", refused.count(15), MOST);
        refused.clearText();
        doc.is("type behind clearText()", refused.type('8'), 1);
    }

    private void clears() {
        PaperStations day = with("12,3");
        day.clearText();
        doc.is("count(15)", day.count(15), 0);
        doc.is("readArrivals of the empty text", day.readArrivals(0, 0), -100);
        day.type('5');
        doc.is("nothing of the text before is left", day.readArrivals(0, 0), 1);
        doc.is("arrivals(0, 0)", day.arrivals(0, 0), 5);
        doc.isNoAct("clearText()", () -> Days.begun(2, 1), x -> {
            int length = x.clearText();
            Days.write(x, "12,3");
            return length;
        });
    }

    private void clearReturns() {
        doc.is("of the empty text", new PaperStations().clearText(), 0);
        for (int length = 1; length <= MOST; length++) {
            PaperStations day = with("7".repeat(length));
            doc.is("the length that it had", day.clearText(), length);
            doc.is("once more", day.clearText(), 0);
        }
        PaperStations full = with("7".repeat(MOST));
        full.type('7');
        doc.is("of a text that was full", full.clearText(), MOST);
    }

    private void readsAllOrNone() {
        PaperStations day = with("5,6");
        day.setArrivals(0, 3, 100);
        day.setArrivals(0, 6, 200);
        day.readArrivals(0, 4);
        for (int hour = 0; hour <= 14; hour++) {
            int want = hour == 3 ? 100 : hour == 4 ? 5 : hour == 5 ? 6 : hour == 6 ? 200 : 0;
            doc.is("arrivals(0, " + hour + ")", day.arrivals(0, hour), want);
            doc.is("arrivals(1, " + hour + ")", day.arrivals(1, hour), 0);
        }
        doc.is("the text stays: count(15)", day.count(15), 3);
        doc.is("the text stays: readArrivals(1, 0)", day.readArrivals(1, 0), 2);
        doc.is("in place of what was told", day.readArrivals(0, 3), 2);
        doc.is("arrivals(0, 3)", day.arrivals(0, 3), 5);
        doc.refuses("none of them: the last is too great", Days.BAD_VALUE, () -> with("1,2,501"),
            x -> x.readArrivals(0, 0));
        doc.refuses("none of them: the last goes beyond", Days.FULL, () -> with("1,2,3"), x -> x.readArrivals(0, 13));
        doc.refuses("none of them: a fault behind them", -106, () -> with("1,2,3,"), x -> x.readArrivals(0, 0));
    }

    private void readIsOneAct() {
        doc.isAct("readArrivals(0, 0) of one", () -> with("500"), day -> day.readArrivals(0, 0));
        doc.isAct("readArrivals(1, 0) of fifteen", () -> with("1,".repeat(14) + "2"), day -> day.readArrivals(1, 0));
        doc.isAct("readArrivals(0, 14) of what is so already", () -> with("0"), day -> day.readArrivals(0, 14));
    }

    private void readStation() {
        Supplier<PaperStations> six = () -> {
            PaperStations day = Days.begun(6, 0);
            Days.write(day, "1,2");
            return day;
        };
        doc.is("the first station", six.get().readArrivals(0, 0), 2);
        doc.is("the last station", six.get().readArrivals(5, 0), 2);
        doc.refusesEach("readArrivals(station, 0)", Days.UNKNOWN, six, (day, station) -> day.readArrivals(station, 0),
            Sentences.outside(0, 5));
        doc.refuses("of no station", Days.UNKNOWN, () -> Days.begun(0, 1), x -> x.readArrivals(0, 0));
    }

    private void readHour() {
        for (int present = 0; present <= 18; present++) {
            for (int hour = -1; hour <= 19; hour++) {
                int want = hour >= present && hour <= 14 ? 1 : Days.BAD_VALUE;
                doc.is("readArrivals(0, " + hour + ") at " + present, at(present, "3").readArrivals(0, hour), want);
            }
        }
        for (int present : new int[] {0, 1, 14}) {
            doc.refusesEach("readArrivals(0, hour) at " + present, Days.BAD_VALUE, () -> at(present, "3"),
                (day, hour) -> day.readArrivals(0, hour), Sentences.outside(present, 14));
        }
    }

    private void readReturns() {
        for (int amount = 1; amount <= 15; amount++) {
            String text = "9,".repeat(amount - 1) + "8";
            int tooLate = 16 - amount;
            PaperStations day = with(text);
            doc.is("how many there are", day.readArrivals(0, tooLate - 1), amount);
            doc.is("to the hour 14", day.arrivals(0, 14), 8);
            if (amount > 1) {
                doc.refuses("FULL: to the hour 15", Days.FULL, () -> with(text), x -> x.readArrivals(0, tooLate));
                doc.refuses("FULL: from the hour 14", Days.FULL, () -> with(text), x -> x.readArrivals(0, 14));
            }
        }
        doc.refuses("FULL: sixteen from the hour 0", Days.FULL, () -> with("9,".repeat(15) + "8"),
            x -> x.readArrivals(0, 0));
        doc.refuses("FULL: as many as a text has room for", Days.FULL, () -> with("9,".repeat(29) + "8"),
            x -> x.readArrivals(0, 0));
        doc.refuses("FULL: as many as a text has room for, in 60 characters", Days.FULL,
            () -> with("9,".repeat(29) + "99"), x -> x.readArrivals(0, 0));
        errorsAlone();
        errorsTogether();
    }

    private void errorsAlone() {
        doc.refuses("UNKNOWN", Days.UNKNOWN, () -> with("3"), x -> x.readArrivals(2, 0));
        doc.refuses("BAD_VALUE (hour)", Days.BAD_VALUE, () -> with("3"), x -> x.readArrivals(0, 15));
        doc.refuses("the fault 0 of the empty text", -100, () -> with(""), x -> x.readArrivals(0, 0));
        doc.refuses("the fault 0", -100, () -> with("x"), x -> x.readArrivals(0, 0));
        doc.refuses("the fault 1", -101, () -> with("00"), x -> x.readArrivals(0, 0));
        doc.refuses("the fault 59, the greatest of a character", -159, () -> with("1,".repeat(29) + "1x"),
            x -> x.readArrivals(0, 0));
        doc.refuses("the fault 60, the greatest of an end", -160, () -> with("1,".repeat(30)), x -> x.readArrivals(0, 0));
        doc.refuses("BAD_VALUE (501)", Days.BAD_VALUE, () -> with("501"), x -> x.readArrivals(0, 0));
        doc.refuses("BAD_VALUE (999 first)", Days.BAD_VALUE, () -> with("999,1"), x -> x.readArrivals(0, 0));
        doc.refuses("BAD_VALUE (501 last)", Days.BAD_VALUE, () -> with("500,500,501"), x -> x.readArrivals(0, 0));
        doc.refuses("BAD_VALUE (501 in the middle)", Days.BAD_VALUE, () -> with("1,501,1"), x -> x.readArrivals(0, 0));
        doc.is("500 is within", with("500,500").readArrivals(0, 0), 2);
    }

    private void errorsTogether() {
        doc.refuses("UNKNOWN ahead of BAD_VALUE (hour)", Days.UNKNOWN, () -> with("3"), x -> x.readArrivals(2, 15));
        doc.refuses("UNKNOWN ahead of the fault", Days.UNKNOWN, () -> with("x"), x -> x.readArrivals(2, 0));
        doc.refuses("UNKNOWN ahead of BAD_VALUE (number)", Days.UNKNOWN, () -> with("501"), x -> x.readArrivals(-1, 0));
        doc.refuses("UNKNOWN ahead of FULL", Days.UNKNOWN, () -> with("3,4"), x -> x.readArrivals(2, 14));
        doc.refuses("BAD_VALUE (hour) ahead of the fault", Days.BAD_VALUE, () -> with(""), x -> x.readArrivals(0, -1));
        doc.refuses("BAD_VALUE (over) ahead of the fault", Days.BAD_VALUE, () -> at(4, "x"), x -> x.readArrivals(0, 3));
        doc.refuses("BAD_VALUE (hour) ahead of FULL", Days.BAD_VALUE, () -> with("3,4"), x -> x.readArrivals(0, 15));
        doc.refuses("the fault ahead of BAD_VALUE (number)", -104, () -> with("501,"), x -> x.readArrivals(0, 0));
        doc.refuses("the fault of a fourth digit ahead of BAD_VALUE (number)", -103, () -> with("5010"),
            x -> x.readArrivals(0, 0));
        doc.refuses("the fault ahead of FULL", -103, () -> with("3,4x"), x -> x.readArrivals(0, 14));
        doc.refuses("BAD_VALUE (number) ahead of FULL", Days.BAD_VALUE, () -> with("3,501"), x -> x.readArrivals(0, 14));
        doc.refuses("BAD_VALUE (number beyond the hour 14) ahead of FULL", Days.BAD_VALUE,
            () -> with("3,".repeat(15) + "501"), x -> x.readArrivals(0, 0));
    }
}
