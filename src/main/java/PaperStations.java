/**
 * Stations at which people vote, hour by hour, with the clerks and the papers that they need.
 *
 * <p>What each call answers is promised in DOC.md. Where several errors apply, the first one of its
 * list is due: so the checks stand in that order, and a state is recorded only behind all of them.
 */
public final class PaperStations {
    /** There is no such station or clerk. */
    public static final int UNKNOWN = -1;
    /** Another argument is out of range. */
    public static final int BAD_VALUE = -2;
    /** There is no more room. */
    public static final int FULL = -3;
    /** This is not possible. */
    public static final int NOT_POSSIBLE = -4;
    /** There is no such thing; not an error. */
    public static final int NONE = -5;

    private static final int MOST_STATIONS = 6;
    private static final int MOST_CLERKS = 12;
    private static final int MOST_SERVED_AN_HOUR = 60;
    private static final int MOST_HOURS_ON_END = 6;
    private static final int LAST_HOUR = 18;
    private static final int ARRIVAL_HOURS = 15;
    private static final int MOST_ARRIVALS = 500;
    private static final int MOST_PAPERS = 9999;
    private static final int MOST_COUNTED = 99999;
    private static final int MOST_COUNTS = 3;
    private static final int FIRST_COUNT_HOUR = 15;
    /** Keeps the difference between a count and a box apart from the errors. */
    private static final int DIFFERENCE_BASE = 100000;
    private static final int MOST_STATES = 4;
    private static final int MOST_SIGNS = 60;
    /** Each number of a text but the last one takes a digit and a comma. */
    private static final int MOST_NUMBERS = (MOST_SIGNS + 1) / 2;
    private static final int MOST_DIGITS = 3;
    private static final int NO_FAULT = -1;
    private static final int FAULT_BASE = -100;

    private final Day day;
    private final Day forecast;
    private final Day snapshot;
    private boolean hasSnapshot;
    private final Station total;
    private final History history;
    private final ArrivalText text;

    public PaperStations() {
        day = new Day();
        forecast = new Day();
        snapshot = new Day();
        total = new Station();
        history = new History();
        text = new ArrivalText();
    }

    // ---- stations and clerks

    public int addStation() {
        if (day.stationCount >= MOST_STATIONS) {
            return FULL;
        }
        history.remember(day);
        day.stationCount++;
        return day.stationCount - 1;
    }

    public int addClerk(int serves, int hours) {
        if (!isWithin(serves, 1, MOST_SERVED_AN_HOUR) || !isWithin(hours, 1, MOST_HOURS_ON_END)) {
            return BAD_VALUE;
        }
        if (day.clerkCount >= MOST_CLERKS) {
            return FULL;
        }
        history.remember(day);
        return day.engageClerk(serves, hours);
    }

    public int setArrivals(int station, int hour, int people) {
        if (!day.hasStation(station)) {
            return UNKNOWN;
        }
        if (!isHourToCome(hour) || !isWithin(people, 0, MOST_ARRIVALS)) {
            return BAD_VALUE;
        }
        Station place = day.stations[station];
        int before = place.arrivals[hour];
        if (before == people) {
            return NONE;
        }
        history.remember(day);
        place.arrivals[hour] = people;
        return before;
    }

    public int assign(int clerk, int station) {
        if (!day.hasClerk(clerk) || !day.hasStation(station)) {
            return UNKNOWN;
        }
        if (!day.clerks[clerk].isFree()) {
            return NOT_POSSIBLE;
        }
        history.remember(day);
        day.clerks[clerk].comeTo(station);
        return day.clerksAt(station);
    }

    public int relieve(int clerk) {
        if (!day.hasClerk(clerk)) {
            return UNKNOWN;
        }
        if (!day.clerks[clerk].isOnDuty()) {
            return NONE;
        }
        history.remember(day);
        int endedRun = day.clerks[clerk].run;
        day.clerks[clerk].leaveDuty(1);
        return endedRun;
    }

    public int pass(int hours) {
        if (!isWithin(hours, 1, LAST_HOUR)) {
            return BAD_VALUE;
        }
        if (day.hour + hours > LAST_HOUR) {
            return NOT_POSSIBLE;
        }
        history.remember(day);
        return day.letHoursPass(hours);
    }

    // ---- papers

    public int supply(int station, int papers) {
        if (!day.hasStation(station)) {
            return UNKNOWN;
        }
        if (!isPaperNumber(papers)) {
            return BAD_VALUE;
        }
        Station place = day.stations[station];
        if (place.stock + papers > MOST_PAPERS) {
            return FULL;
        }
        history.remember(day);
        place.stock += papers;
        return place.stock;
    }

    public int movePapers(int from, int to, int papers) {
        if (!day.hasStation(from) || !day.hasStation(to)) {
            return UNKNOWN;
        }
        if (!isPaperNumber(papers) || from == to) {
            return BAD_VALUE;
        }
        Station giver = day.stations[from];
        Station taker = day.stations[to];
        if (giver.stock < papers) {
            return NOT_POSSIBLE;
        }
        if (taker.stock + papers > MOST_PAPERS) {
            return FULL;
        }
        history.remember(day);
        giver.stock -= papers;
        taker.stock += papers;
        return giver.stock;
    }

    public int spoil(int station, int papers) {
        if (!day.hasStation(station)) {
            return UNKNOWN;
        }
        if (!isPaperNumber(papers)) {
            return BAD_VALUE;
        }
        Station place = day.stations[station];
        if (place.box < papers || place.stock < papers) {
            return NOT_POSSIBLE;
        }
        history.remember(day);
        place.spoilt += papers;
        place.issued += papers;
        place.stock -= papers;
        return place.stock;
    }

    public int carryOff(int station, int papers) {
        if (!day.hasStation(station)) {
            return UNKNOWN;
        }
        if (!isPaperNumber(papers)) {
            return BAD_VALUE;
        }
        Station place = day.stations[station];
        if (place.box < papers) {
            return NOT_POSSIBLE;
        }
        history.remember(day);
        place.box -= papers;
        place.carriedOff += papers;
        return place.box;
    }

    public int find(int station, int papers) {
        if (!day.hasStation(station)) {
            return UNKNOWN;
        }
        if (!isPaperNumber(papers)) {
            return BAD_VALUE;
        }
        Station place = day.stations[station];
        if (place.carriedOff < papers) {
            return NOT_POSSIBLE;
        }
        history.remember(day);
        place.carriedOff -= papers;
        place.found += papers;
        return place.carriedOff;
    }

    public int countBox(int station, int papers) {
        if (!day.hasStation(station)) {
            return UNKNOWN;
        }
        if (!isWithin(papers, 0, MOST_COUNTED)) {
            return BAD_VALUE;
        }
        Station place = day.stations[station];
        if (day.hour < FIRST_COUNT_HOUR || place.queue > 0) {
            return NOT_POSSIBLE;
        }
        if (place.timesCounted >= MOST_COUNTS) {
            return FULL;
        }
        history.remember(day);
        place.latestCount = papers;
        place.timesCounted++;
        return place.timesCounted;
    }

    // ---- texts

    public int type(char character) {
        if (text.length >= MOST_SIGNS) {
            return FULL;
        }
        text.signs[text.length] = character;
        text.length++;
        return text.length;
    }

    public int clearText() {
        int before = text.length;
        text.length = 0;
        return before;
    }

    public int readArrivals(int station, int hour) {
        if (!day.hasStation(station)) {
            return UNKNOWN;
        }
        if (!isHourToCome(hour)) {
            return BAD_VALUE;
        }
        int fault = text.fault();
        if (fault != NO_FAULT) {
            return FAULT_BASE - fault;
        }
        int amount = text.readNumbers();
        if (text.greatestNumber(amount) > MOST_ARRIVALS) {
            return BAD_VALUE;
        }
        if (hour + amount > ARRIVAL_HOURS) {
            return FULL;
        }
        history.remember(day);
        System.arraycopy(text.numbers, 0, day.stations[station].arrivals, hour, amount);
        return amount;
    }

    // ---- history

    public int undo() {
        if (history.size <= 0) {
            return NONE;
        }
        history.takeBackInto(day);
        return history.size;
    }

    public int keep() {
        snapshot.copyFrom(day);
        hasSnapshot = true;
        return day.hour;
    }

    public int restore() {
        if (!hasSnapshot) {
            return NONE;
        }
        history.remember(day);
        day.copyFrom(snapshot);
        return day.hour;
    }

    // ---- what is told

    public int station(int station, int what) {
        if (!day.hasStation(station)) {
            return UNKNOWN;
        }
        Station place = day.stations[station];
        switch (what) {
            case 0: return place.queue;
            case 1: return place.longestQueue;
            case 2: return place.served;
            case 3: return place.hoursWaited;
            case 4: return day.clerksAt(station);
            case 5: return day.servedAnHourAt(station);
            case 6: return place.allArrivals();
            case 7: return day.hoursForQueueOf(station);
            default: return BAD_VALUE;
        }
    }

    public int papers(int station, int what) {
        if (!day.hasStation(station)) {
            return UNKNOWN;
        }
        Station place = day.stations[station];
        switch (what) {
            case 0: return place.stock;
            case 1: return place.issued;
            case 2: return place.spoilt;
            case 3: return place.carriedOff;
            case 4: return place.found;
            case 5: return place.box;
            case 6: return place.isCounted() ? place.latestCount : NONE;
            case 7: return place.isCounted() ? place.latestCount - place.box + DIFFERENCE_BASE : NONE;
            case 8: return place.timesCounted;
            default: return BAD_VALUE;
        }
    }

    public int clerk(int clerk, int what) {
        if (!day.hasClerk(clerk)) {
            return UNKNOWN;
        }
        Clerk person = day.clerks[clerk];
        switch (what) {
            case 0: return person.serves;
            case 1: return person.longestRun;
            case 2: return person.dutyStation;
            case 3: return person.run;
            case 4: return person.hoursWorked;
            case 5: return person.rests() ? 1 : 0;
            case 6: return person.isFree() ? day.placeAmongFree(clerk) : NONE;
            default: return BAD_VALUE;
        }
    }

    public int arrivals(int station, int hour) {
        if (!day.hasStation(station)) {
            return UNKNOWN;
        }
        if (!isWithin(hour, 0, ARRIVAL_HOURS - 1)) {
            return BAD_VALUE;
        }
        return day.stations[station].arrivals[hour];
    }

    public int free(int place) {
        if (place < 0) {
            return BAD_VALUE;
        }
        for (int clerk = 0; clerk < day.clerkCount; clerk++) {
            if (day.clerks[clerk].isFree() && day.placeAmongFree(clerk) == place) {
                return clerk;
            }
        }
        return NONE;
    }

    public int busiest(int place) {
        if (place < 0) {
            return BAD_VALUE;
        }
        for (int station = 0; station < day.stationCount; station++) {
            if (day.placeByQueue(station) == place) {
                return station;
            }
        }
        return NONE;
    }

    public int queueIn(int station, int hours) {
        if (!day.hasStation(station)) {
            return UNKNOWN;
        }
        if (!isWithin(hours, 0, LAST_HOUR)) {
            return BAD_VALUE;
        }
        if (day.hour + hours > LAST_HOUR) {
            return NOT_POSSIBLE;
        }
        forecast.copyFrom(day);
        forecast.letHoursPass(hours);
        return forecast.stations[station].queue;
    }

    public int lacks(int station) {
        if (!day.hasStation(station)) {
            return UNKNOWN;
        }
        forecast.copyFrom(day);
        Station place = forecast.stations[station];
        // Nobody is served twice, so a stock for all who can ever arrive never runs out.
        place.stock = ARRIVAL_HOURS * MOST_ARRIVALS;
        forecast.letHoursPass(LAST_HOUR - day.hour);
        int needed = place.served - day.stations[station].served;
        return Math.max(0, needed - day.stations[station].stock);
    }

    public int count(int what) {
        switch (what) {
            case 0: return day.hour;
            case 1: return day.stationCount;
            case 2: return day.clerkCount;
            case 3: return day.clerksOnDuty();
            case 4: return day.freeClerks();
            case 5: return total().queue;
            case 6: return total().served;
            case 7: return total().stock;
            case 8: return total().issued;
            case 9: return total().box;
            case 10: return day.stationsCounted(true);
            case 11: return day.stationsCounted(false);
            case 12: return total().hoursWaited;
            case 13: return day.hoursWorked();
            case 14: return history.size;
            case 15: return text.length;
            default: return BAD_VALUE;
        }
    }

    private Station total() {
        total.becomeSumOf(day.stations, day.stationCount);
        return total;
    }

    private boolean isHourToCome(int hour) {
        return hour >= day.hour && isWithin(hour, 0, ARRIVAL_HOURS - 1);
    }

    private static boolean isPaperNumber(int papers) {
        return isWithin(papers, 1, MOST_PAPERS);
    }

    private static boolean isWithin(int value, int least, int most) {
        return value >= least && value <= most;
    }

    /** The people and papers of one station. */
    private static final class Station {
        final int[] arrivals;
        int queue;
        int longestQueue;
        int served;
        int hoursWaited;
        int stock;
        int issued;
        int spoilt;
        int carriedOff;
        int found;
        int box;
        int latestCount;
        int timesCounted;

        Station() {
            arrivals = new int[ARRIVAL_HOURS];
        }

        void copyFrom(Station other) {
            System.arraycopy(other.arrivals, 0, arrivals, 0, ARRIVAL_HOURS);
            queue = other.queue;
            longestQueue = other.longestQueue;
            served = other.served;
            hoursWaited = other.hoursWaited;
            stock = other.stock;
            issued = other.issued;
            spoilt = other.spoilt;
            carriedOff = other.carriedOff;
            found = other.found;
            box = other.box;
            latestCount = other.latestCount;
            timesCounted = other.timesCounted;
        }

        void becomeSumOf(Station[] stations, int amount) {
            queue = 0;
            served = 0;
            hoursWaited = 0;
            stock = 0;
            issued = 0;
            box = 0;
            for (int station = 0; station < amount; station++) {
                queue += stations[station].queue;
                served += stations[station].served;
                hoursWaited += stations[station].hoursWaited;
                stock += stations[station].stock;
                issued += stations[station].issued;
                box += stations[station].box;
            }
        }

        int serveQueue(int mostServed) {
            int people = Math.min(queue, Math.min(mostServed, stock));
            queue -= people;
            stock -= people;
            served += people;
            issued += people;
            box += people;
            hoursWaited += queue;
            longestQueue = Math.max(longestQueue, queue);
            return people;
        }

        int allArrivals() {
            int sum = 0;
            for (int hour = 0; hour < ARRIVAL_HOURS; hour++) {
                sum += arrivals[hour];
            }
            return sum;
        }

        boolean isCounted() {
            return timesCounted > 0;
        }

        boolean countAgrees() {
            return latestCount == box;
        }
    }

    /** One clerk: on duty, resting or free. */
    private static final class Clerk {
        int serves;
        int longestRun;
        int dutyStation;
        int run;
        int hoursWorked;
        /** The ends of hours that must come until the clerk does not rest any more. */
        int restEnds;

        Clerk() {
            dutyStation = NONE;
        }

        void copyFrom(Clerk other) {
            serves = other.serves;
            longestRun = other.longestRun;
            dutyStation = other.dutyStation;
            run = other.run;
            hoursWorked = other.hoursWorked;
            restEnds = other.restEnds;
        }

        boolean isOnDuty() {
            return dutyStation != NONE;
        }

        boolean rests() {
            return restEnds > 0;
        }

        boolean isFree() {
            return !isOnDuty() && !rests();
        }

        boolean mustLeave() {
            return isOnDuty() && run >= longestRun;
        }

        void comeTo(int station) {
            dutyStation = station;
        }

        void leaveDuty(int endsToRest) {
            dutyStation = NONE;
            run = 0;
            restEnds = endsToRest;
        }

        void endHour() {
            if (isOnDuty()) {
                hoursWorked++;
                run++;
            }
            if (rests()) {
                restEnds--;
            }
        }
    }

    /** A state: everything but the text, the history and the snapshot. */
    private static final class Day {
        int hour;
        int stationCount;
        int clerkCount;
        final Station[] stations;
        final Clerk[] clerks;

        /** Makes all stations and clerks at once, so that no later call makes an object. */
        Day() {
            stations = new Station[MOST_STATIONS];
            for (int station = 0; station < MOST_STATIONS; station++) {
                stations[station] = new Station();
            }
            clerks = new Clerk[MOST_CLERKS];
            for (int clerk = 0; clerk < MOST_CLERKS; clerk++) {
                clerks[clerk] = new Clerk();
            }
        }

        /** Copies those that are not added yet too: they must be fresh again behind an undo. */
        void copyFrom(Day other) {
            hour = other.hour;
            stationCount = other.stationCount;
            clerkCount = other.clerkCount;
            for (int station = 0; station < MOST_STATIONS; station++) {
                stations[station].copyFrom(other.stations[station]);
            }
            for (int clerk = 0; clerk < MOST_CLERKS; clerk++) {
                clerks[clerk].copyFrom(other.clerks[clerk]);
            }
        }

        boolean hasStation(int station) {
            return station >= 0 && station < stationCount;
        }

        boolean hasClerk(int clerk) {
            return clerk >= 0 && clerk < clerkCount;
        }

        int engageClerk(int serves, int longestRun) {
            clerks[clerkCount].serves = serves;
            clerks[clerkCount].longestRun = longestRun;
            clerkCount++;
            return clerkCount - 1;
        }

        int letHoursPass(int hours) {
            int people = 0;
            for (int passed = 0; passed < hours; passed++) {
                letArrive();
                changeClerks();
                people += serveQueues();
                endHourOfClerks();
                hour++;
            }
            return people;
        }

        private void letArrive() {
            if (hour >= ARRIVAL_HOURS) {
                return;
            }
            for (int station = 0; station < stationCount; station++) {
                stations[station].queue += stations[station].arrivals[hour];
            }
        }

        private void changeClerks() {
            for (int clerk = 0; clerk < clerkCount; clerk++) {
                if (clerks[clerk].mustLeave()) {
                    int station = clerks[clerk].dutyStation;
                    // The end of this very hour does not end a rest that begins in it.
                    clerks[clerk].leaveDuty(2);
                    int next = firstFree();
                    if (next != NONE) {
                        clerks[next].comeTo(station);
                    }
                }
            }
        }

        private int serveQueues() {
            int people = 0;
            for (int station = 0; station < stationCount; station++) {
                people += stations[station].serveQueue(servedAnHourAt(station));
            }
            return people;
        }

        private void endHourOfClerks() {
            for (int clerk = 0; clerk < clerkCount; clerk++) {
                clerks[clerk].endHour();
            }
        }

        private int firstFree() {
            int first = NONE;
            for (int clerk = 0; clerk < clerkCount; clerk++) {
                if (clerks[clerk].isFree() && (first == NONE || comesBefore(clerk, first))) {
                    first = clerk;
                }
            }
            return first;
        }

        private boolean comesBefore(int one, int other) {
            int difference = clerks[one].hoursWorked - clerks[other].hoursWorked;
            return difference < 0 || difference == 0 && one < other;
        }

        int placeAmongFree(int clerk) {
            int before = 0;
            for (int other = 0; other < clerkCount; other++) {
                if (clerks[other].isFree() && comesBefore(other, clerk)) {
                    before++;
                }
            }
            return before;
        }

        int placeByQueue(int station) {
            int before = 0;
            for (int other = 0; other < stationCount; other++) {
                int difference = stations[other].queue - stations[station].queue;
                if (difference > 0 || difference == 0 && other < station) {
                    before++;
                }
            }
            return before;
        }

        int clerksAt(int station) {
            int number = 0;
            for (int clerk = 0; clerk < clerkCount; clerk++) {
                if (clerks[clerk].dutyStation == station) {
                    number++;
                }
            }
            return number;
        }

        int servedAnHourAt(int station) {
            int people = 0;
            for (int clerk = 0; clerk < clerkCount; clerk++) {
                if (clerks[clerk].dutyStation == station) {
                    people += clerks[clerk].serves;
                }
            }
            return people;
        }

        int hoursForQueueOf(int station) {
            int people = stations[station].queue;
            int anHour = servedAnHourAt(station);
            if (people == 0) {
                return 0;
            }
            if (anHour <= 0) {
                return NONE;
            }
            return (people + anHour - 1) / anHour;
        }

        int clerksOnDuty() {
            int number = 0;
            for (int clerk = 0; clerk < clerkCount; clerk++) {
                if (clerks[clerk].isOnDuty()) {
                    number++;
                }
            }
            return number;
        }

        int freeClerks() {
            int number = 0;
            for (int clerk = 0; clerk < clerkCount; clerk++) {
                if (clerks[clerk].isFree()) {
                    number++;
                }
            }
            return number;
        }

        int hoursWorked() {
            int sum = 0;
            for (int clerk = 0; clerk < clerkCount; clerk++) {
                sum += clerks[clerk].hoursWorked;
            }
            return sum;
        }

        int stationsCounted(boolean agreeing) {
            int number = 0;
            for (int station = 0; station < stationCount; station++) {
                if (stations[station].isCounted() && stations[station].countAgrees() == agreeing) {
                    number++;
                }
            }
            return number;
        }
    }

    /** The latest states, the oldest one first. */
    private static final class History {
        final Day[] states;
        int size;

        History() {
            states = new Day[MOST_STATES];
            for (int state = 0; state < MOST_STATES; state++) {
                states[state] = new Day();
            }
        }

        void remember(Day day) {
            if (size >= MOST_STATES) {
                dropOldest();
            }
            states[size].copyFrom(day);
            size++;
        }

        /** The dropped state's object goes behind the others, to be written anew. */
        private void dropOldest() {
            Day oldest = states[0];
            for (int state = 1; state < MOST_STATES; state++) {
                states[state - 1] = states[state];
            }
            states[MOST_STATES - 1] = oldest;
            size = MOST_STATES - 1;
        }

        void takeBackInto(Day day) {
            if (size > 0) {
                size--;
                day.copyFrom(states[size]);
            }
        }
    }

    /** The typed text, and the numbers that are read from it. */
    private static final class ArrivalText {
        final char[] signs;
        final int[] numbers;
        int length;

        ArrivalText() {
            signs = new char[MOST_SIGNS];
            numbers = new int[MOST_NUMBERS];
        }

        int fault() {
            int digits = 0;
            boolean isZero = false;
            for (int index = 0; index < length; index++) {
                char sign = signs[index];
                if (isDigit(sign)) {
                    if (digits == MOST_DIGITS || isZero) {
                        return index;
                    }
                    isZero = digits == 0 && sign == '0';
                    digits++;
                } else {
                    if (sign != ',' || digits == 0) {
                        return index;
                    }
                    digits = 0;
                    isZero = false;
                }
            }
            return digits == 0 ? length : NO_FAULT;
        }

        /** Takes the text to be without a fault: so a sign that is no comma is a digit. */
        int readNumbers() {
            int last = 0;
            numbers[0] = 0;
            for (int index = 0; index < length; index++) {
                if (signs[index] != ',') {
                    numbers[last] = numbers[last] * 10 + (signs[index] - '0');
                } else if (last + 1 < MOST_NUMBERS) {
                    last++;
                    numbers[last] = 0;
                }
            }
            return last + 1;
        }

        int greatestNumber(int amount) {
            int greatest = 0;
            for (int index = 0; index < amount; index++) {
                greatest = Math.max(greatest, numbers[index]);
            }
            return greatest;
        }

        private static boolean isDigit(char sign) {
            return sign >= '0' && sign <= '9';
        }
    }
}
