import java.util.ArrayDeque;
import java.util.ArrayList;
import java.util.Comparator;
import java.util.Deque;
import java.util.List;
import java.util.regex.Pattern;
import java.util.stream.Collectors;
import java.util.stream.IntStream;

/** The document a second time, written with the Java library and without a thought of speed. */
final class Model {
    private static final Pattern TEXT = Pattern.compile("((0|[1-9][0-9]{0,2}),)*(0|[1-9][0-9]{0,2})");
    private static final Pattern BEGINNING = Pattern.compile("((0|[1-9][0-9]{0,2}),)*(0|[1-9][0-9]{0,2})?");

    private static final class Person {
        final int number;
        final int serves;
        final int most;
        Integer at;
        int run;
        int worked;
        boolean rests;

        Person(int number, int serves, int most) {
            this.number = number;
            this.serves = serves;
            this.most = most;
        }

        Person copy() {
            Person copy = new Person(number, serves, most);
            copy.at = at;
            copy.run = run;
            copy.worked = worked;
            copy.rests = rests;
            return copy;
        }
    }

    private static final class Place {
        final int[] told = new int[15];
        int queue;
        int longest;
        int served;
        int waited;
        int stock;
        int issued;
        int spoilt;
        int away;
        int found;
        final List<Integer> counts = new ArrayList<>();

        int box() {
            return issued - spoilt - away - found;
        }

        Place copy() {
            Place copy = new Place();
            System.arraycopy(told, 0, copy.told, 0, 15);
            copy.queue = queue;
            copy.longest = longest;
            copy.served = served;
            copy.waited = waited;
            copy.stock = stock;
            copy.issued = issued;
            copy.spoilt = spoilt;
            copy.away = away;
            copy.found = found;
            copy.counts.addAll(counts);
            return copy;
        }
    }

    private static final class State {
        int hour;
        final List<Place> places = new ArrayList<>();
        final List<Person> people = new ArrayList<>();

        State copy() {
            State copy = new State();
            copy.hour = hour;
            places.forEach(place -> copy.places.add(place.copy()));
            people.forEach(person -> copy.people.add(person.copy()));
            return copy;
        }

        List<Person> free() {
            return people.stream().filter(p -> p.at == null && !p.rests)
                .sorted(Comparator.<Person>comparingInt(p -> p.worked).thenComparingInt(p -> p.number))
                .collect(Collectors.toList());
        }

        List<Person> at(int place) {
            return people.stream().filter(p -> p.at != null && p.at == place).collect(Collectors.toList());
        }

        int anHour(int place) {
            return at(place).stream().mapToInt(p -> p.serves).sum();
        }

        int step() {
            if (hour < 15) {
                places.forEach(place -> place.queue += place.told[hour]);
            }
            List<Person> resting = people.stream().filter(p -> p.rests).collect(Collectors.toList());
            for (Person person : people) {
                if (person.at != null && person.run == person.most) {
                    int place = person.at;
                    person.at = null;
                    person.run = 0;
                    person.rests = true;
                    free().stream().findFirst().ifPresent(next -> next.at = place);
                }
            }
            int sum = 0;
            for (int i = 0; i < places.size(); i++) {
                Place place = places.get(i);
                int now = IntStream.of(place.queue, anHour(i), place.stock).min().getAsInt();
                place.queue -= now;
                place.served += now;
                place.issued += now;
                place.stock -= now;
                place.waited += place.queue;
                place.longest = Math.max(place.longest, place.queue);
                sum += now;
            }
            for (Person person : people) {
                if (person.at != null) {
                    person.worked++;
                    person.run++;
                }
            }
            resting.forEach(person -> person.rests = false);
            hour++;
            return sum;
        }
    }

    private State state = new State();
    private State snapshot;
    private final Deque<State> history = new ArrayDeque<>();
    private String text = "";

    private void act() {
        history.addLast(state.copy());
        if (history.size() > 4) {
            history.removeFirst();
        }
    }

    private boolean noPlace(int place) {
        return place < 0 || place >= state.places.size();
    }

    private boolean noPerson(int person) {
        return person < 0 || person >= state.people.size();
    }

    private boolean badPapers(int papers) {
        return papers < 1 || papers > 9999;
    }

    int addStation() {
        if (state.places.size() == 6) return -3;
        act();
        state.places.add(new Place());
        return state.places.size() - 1;
    }

    int addClerk(int serves, int hours) {
        if (serves < 1 || serves > 60 || hours < 1 || hours > 6) return -2;
        if (state.people.size() == 12) return -3;
        act();
        state.people.add(new Person(state.people.size(), serves, hours));
        return state.people.size() - 1;
    }

    int setArrivals(int station, int hour, int people) {
        if (noPlace(station)) return -1;
        if (hour < state.hour || hour > 14 || people < 0 || people > 500) return -2;
        int before = state.places.get(station).told[hour];
        if (before == people) return -5;
        act();
        state.places.get(station).told[hour] = people;
        return before;
    }

    int assign(int clerk, int station) {
        if (noPerson(clerk) || noPlace(station)) return -1;
        if (!state.free().contains(state.people.get(clerk))) return -4;
        act();
        state.people.get(clerk).at = station;
        return state.at(station).size();
    }

    int relieve(int clerk) {
        if (noPerson(clerk)) return -1;
        if (state.people.get(clerk).at == null) return -5;
        act();
        Person person = state.people.get(clerk);
        int run = person.run;
        person.at = null;
        person.run = 0;
        person.rests = true;
        return run;
    }

    int pass(int hours) {
        if (hours < 1 || hours > 18) return -2;
        if (state.hour + hours > 18) return -4;
        act();
        int sum = 0;
        for (int i = 0; i < hours; i++) {
            sum += state.step();
        }
        return sum;
    }

    int supply(int station, int papers) {
        if (noPlace(station)) return -1;
        if (badPapers(papers)) return -2;
        if (state.places.get(station).stock + papers > 9999) return -3;
        act();
        return state.places.get(station).stock += papers;
    }

    int movePapers(int from, int to, int papers) {
        if (noPlace(from) || noPlace(to)) return -1;
        if (badPapers(papers) || from == to) return -2;
        if (state.places.get(from).stock < papers) return -4;
        if (state.places.get(to).stock + papers > 9999) return -3;
        act();
        state.places.get(to).stock += papers;
        return state.places.get(from).stock -= papers;
    }

    int spoil(int station, int papers) {
        if (noPlace(station)) return -1;
        if (badPapers(papers)) return -2;
        Place place = state.places.get(station);
        if (place.box() < papers || place.stock < papers) return -4;
        act();
        place.spoilt += papers;
        place.issued += papers;
        return place.stock -= papers;
    }

    int carryOff(int station, int papers) {
        if (noPlace(station)) return -1;
        if (badPapers(papers)) return -2;
        Place place = state.places.get(station);
        if (place.box() < papers) return -4;
        act();
        place.away += papers;
        return place.box();
    }

    int find(int station, int papers) {
        if (noPlace(station)) return -1;
        if (badPapers(papers)) return -2;
        Place place = state.places.get(station);
        if (place.away < papers) return -4;
        act();
        place.found += papers;
        return place.away -= papers;
    }

    int countBox(int station, int papers) {
        if (noPlace(station)) return -1;
        if (papers < 0 || papers > 99999) return -2;
        Place place = state.places.get(station);
        if (state.hour < 15 || place.queue != 0) return -4;
        if (place.counts.size() == 3) return -3;
        act();
        place.counts.add(papers);
        return place.counts.size();
    }

    int type(char character) {
        if (text.length() == 60) return -3;
        text += character;
        return text.length();
    }

    int clearText() {
        int length = text.length();
        text = "";
        return length;
    }

    private int fault() {
        for (int i = 1; i <= text.length(); i++) {
            if (!BEGINNING.matcher(text.substring(0, i)).matches()) return i - 1;
        }
        return TEXT.matcher(text).matches() ? -1 : text.length();
    }

    int readArrivals(int station, int hour) {
        if (noPlace(station)) return -1;
        if (hour < state.hour || hour > 14) return -2;
        if (fault() >= 0) return -100 - fault();
        String[] numbers = text.split(",");
        for (String number : numbers) {
            if (Integer.parseInt(number) > 500) return -2;
        }
        if (hour + numbers.length - 1 > 14) return -3;
        act();
        for (int i = 0; i < numbers.length; i++) {
            state.places.get(station).told[hour + i] = Integer.parseInt(numbers[i]);
        }
        return numbers.length;
    }

    int undo() {
        if (history.isEmpty()) return -5;
        state = history.removeLast();
        return history.size();
    }

    int keep() {
        snapshot = state.copy();
        return state.hour;
    }

    int restore() {
        if (snapshot == null) return -5;
        act();
        state = snapshot.copy();
        return state.hour;
    }

    int station(int station, int what) {
        if (noPlace(station)) return -1;
        if (what < 0 || what > 7) return -2;
        Place place = state.places.get(station);
        int anHour = state.anHour(station);
        int hours = place.queue == 0 ? 0 : anHour == 0 ? -5 : (int) Math.ceil(place.queue / (double) anHour);
        return new int[] {place.queue, place.longest, place.served, place.waited, state.at(station).size(),
            anHour, IntStream.of(place.told).sum(), hours}[what];
    }

    int papers(int station, int what) {
        if (noPlace(station)) return -1;
        if (what < 0 || what > 8) return -2;
        Place place = state.places.get(station);
        int times = place.counts.size();
        int latest = times == 0 ? -5 : place.counts.get(times - 1);
        int difference = times == 0 ? -5 : latest - place.box() + 100000;
        return new int[] {place.stock, place.issued, place.spoilt, place.away, place.found, place.box(),
            latest, difference, times}[what];
    }

    int clerk(int clerk, int what) {
        if (noPerson(clerk)) return -1;
        if (what < 0 || what > 6) return -2;
        Person person = state.people.get(clerk);
        int place = state.free().indexOf(person);
        return new int[] {person.serves, person.most, person.at == null ? -5 : person.at, person.run,
            person.worked, person.rests ? 1 : 0, place < 0 ? -5 : place}[what];
    }

    int arrivals(int station, int hour) {
        if (noPlace(station)) return -1;
        return hour < 0 || hour > 14 ? -2 : state.places.get(station).told[hour];
    }

    int free(int place) {
        if (place < 0) return -2;
        return place >= state.free().size() ? -5 : state.free().get(place).number;
    }

    int busiest(int place) {
        if (place < 0) return -2;
        if (place >= state.places.size()) return -5;
        return IntStream.range(0, state.places.size()).boxed()
            .sorted(Comparator.comparing(i -> -state.places.get(i).queue)).skip(place).findFirst().get();
    }

    int queueIn(int station, int hours) {
        if (noPlace(station)) return -1;
        if (hours < 0 || hours > 18) return -2;
        if (state.hour + hours > 18) return -4;
        State later = state.copy();
        IntStream.range(0, hours).forEach(i -> later.step());
        return later.places.get(station).queue;
    }

    int lacks(int station) {
        if (noPlace(station)) return -1;
        State later = state.copy();
        later.places.get(station).stock = 1_000_000;
        while (later.hour < 18) {
            later.step();
        }
        int needed = 1_000_000 - later.places.get(station).stock;
        return Math.max(needed - state.places.get(station).stock, 0);
    }

    int count(int what) {
        if (what < 0 || what > 15) return -2;
        List<Place> counted = state.places.stream().filter(p -> !p.counts.isEmpty()).collect(Collectors.toList());
        int agree = (int) counted.stream().filter(p -> p.counts.get(p.counts.size() - 1) == p.box()).count();
        return new int[] {state.hour, state.places.size(), state.people.size(),
            (int) state.people.stream().filter(p -> p.at != null).count(), state.free().size(),
            state.places.stream().mapToInt(p -> p.queue).sum(), state.places.stream().mapToInt(p -> p.served).sum(),
            state.places.stream().mapToInt(p -> p.stock).sum(), state.places.stream().mapToInt(p -> p.issued).sum(),
            state.places.stream().mapToInt(Place::box).sum(), agree, counted.size() - agree,
            state.places.stream().mapToInt(p -> p.waited).sum(), state.people.stream().mapToInt(p -> p.worked).sum(),
            history.size(), text.length()}[what];
    }
}
