import java.util.Random;
import java.util.function.ToIntFunction;

/** Runs of 512 calls, from fixed seeds, on an object and on the model beside it. */
public final class RandomRunsTest {
    private static final int RUNS = 3000;
    private static final int CALLS = 512;
    private static final int[] ODD = {Integer.MIN_VALUE, Integer.MAX_VALUE, -1, 99999, 100000, 9999, 10000, 500, 501};
    private static final Due DUE = new Due("RandomRunsTest");

    private final Random random;
    private final int seed;
    private final PaperStations object = new PaperStations();
    private final Model model = new Model();
    private int call;

    private RandomRunsTest(int seed) {
        this.seed = seed;
        this.random = new Random(seed);
    }

    public static void main(String[] args) {
        for (int seed = 1; seed <= RUNS; seed++) {
            new RandomRunsTest(seed).run();
        }
        DUE.end();
    }

    private void run() {
        int stations = random.nextInt(7);
        int clerks = random.nextInt(13);
        for (int i = 0; i < stations; i++) {
            same("addStation", PaperStations::addStation, Model::addStation);
        }
        for (int i = 0; i < clerks; i++) {
            addClerk();
        }
        while (call < CALLS) {
            if (random.nextInt(3) == 0) {
                tell();
            } else if (random.nextInt(6) == 0) {
                writeText();
            } else {
                change();
            }
        }
    }

    private void same(String name, ToIntFunction<PaperStations> asked, ToIntFunction<Model> due) {
        if (call < CALLS) {
            call++;
            DUE.is("seed " + seed + ", call " + call + ": " + name, asked.applyAsInt(object), due.applyAsInt(model));
        }
    }

    private int number(int least, int most) {
        int choice = random.nextInt(60);
        if (choice == 0) {
            return ODD[random.nextInt(ODD.length)];
        }
        if (choice == 1) {
            return random.nextBoolean() ? least - 1 : most + 1;
        }
        return least + random.nextInt(most - least + 1);
    }

    private int station() {
        return number(0, Math.max(0, model.count(1) - 1));
    }

    private int clerk() {
        return number(0, Math.max(0, model.count(2) - 1));
    }

    private int hour() {
        return number(Math.min(14, model.count(0)), 14);
    }

    private int papers() {
        int choice = random.nextInt(4);
        return number(1, choice == 0 ? 9999 : choice == 1 ? 5 : 80);
    }

    private void addClerk() {
        int serves = number(1, 60);
        int hours = number(1, 6);
        same("addClerk", x -> x.addClerk(serves, hours), m -> m.addClerk(serves, hours));
    }

    private void change() {
        int station = station();
        int other = station();
        int clerk = clerk();
        int papers = papers();
        int hour = hour();
        switch (random.nextInt(18)) {
            case 0: same("addStation", PaperStations::addStation, Model::addStation); break;
            case 1: addClerk(); break;
            case 2: case 3:
                int people = number(0, random.nextBoolean() ? 500 : 3);
                same("setArrivals", x -> x.setArrivals(station, hour, people), m -> m.setArrivals(station, hour, people));
                break;
            case 4: case 5: case 6:
                same("assign", x -> x.assign(clerk, station), m -> m.assign(clerk, station));
                break;
            case 7: same("relieve", x -> x.relieve(clerk), m -> m.relieve(clerk)); break;
            case 8: case 9:
                int hours = random.nextInt(30) == 0 ? number(1, 18) : 1;
                same("pass", x -> x.pass(hours), m -> m.pass(hours));
                break;
            case 10: same("supply", x -> x.supply(station, papers), m -> m.supply(station, papers)); break;
            case 11:
                same("movePapers", x -> x.movePapers(station, other, papers), m -> m.movePapers(station, other, papers));
                break;
            case 12: same("spoil", x -> x.spoil(station, papers), m -> m.spoil(station, papers)); break;
            case 13: same("carryOff", x -> x.carryOff(station, papers), m -> m.carryOff(station, papers)); break;
            case 14: same("find", x -> x.find(station, papers), m -> m.find(station, papers)); break;
            case 15: countBox(station); break;
            case 16: back(); break;
            default: same("readArrivals", x -> x.readArrivals(station, hour), m -> m.readArrivals(station, hour));
        }
    }

    private void countBox(int station) {
        int right = Math.max(0, model.papers(station, 5));
        int papers = random.nextBoolean() ? right : number(0, 99999);
        same("countBox", x -> x.countBox(station, papers), m -> m.countBox(station, papers));
    }

    private void back() {
        switch (random.nextInt(4)) {
            case 0: same("keep", PaperStations::keep, Model::keep); break;
            case 1: same("restore", PaperStations::restore, Model::restore); break;
            default:
                for (int times = random.nextInt(6); times >= 0; times--) {
                    same("undo", PaperStations::undo, Model::undo);
                }
        }
    }

    private void writeText() {
        if (random.nextInt(3) != 0) {
            same("clearText", PaperStations::clearText, Model::clearText);
        }
        int numbers = random.nextInt(random.nextInt(5) == 0 ? 20 : 4);
        for (int i = 0; i <= numbers; i++) {
            String number = Integer.toString(random.nextInt(random.nextInt(10) == 0 ? 1100 : 501));
            (random.nextInt(40) == 0 ? "0" + number : number).chars().forEach(sign -> type((char) sign));
            if (i < numbers || random.nextInt(8) == 0) {
                type(random.nextInt(30) == 0 ? (char) random.nextInt(65536) : ',');
            }
        }
        int station = station();
        int hour = hour();
        same("readArrivals", x -> x.readArrivals(station, hour), m -> m.readArrivals(station, hour));
    }

    private void type(char sign) {
        same("type", x -> x.type(sign), m -> m.type(sign));
    }

    private void tell() {
        int station = station();
        int clerk = clerk();
        int place = number(0, 11);
        int what = number(0, 7);
        int hours = number(0, 18);
        switch (random.nextInt(9)) {
            case 0: same("station", x -> x.station(station, what), m -> m.station(station, what)); break;
            case 1:
                int which = number(0, 8);
                same("papers", x -> x.papers(station, which), m -> m.papers(station, which));
                break;
            case 2: same("clerk", x -> x.clerk(clerk, what), m -> m.clerk(clerk, what)); break;
            case 3: same("arrivals", x -> x.arrivals(station, hours), m -> m.arrivals(station, hours)); break;
            case 4: same("free", x -> x.free(place), m -> m.free(place)); break;
            case 5: same("busiest", x -> x.busiest(place), m -> m.busiest(place)); break;
            case 6: same("queueIn", x -> x.queueIn(station, hours), m -> m.queueIn(station, hours)); break;
            case 7: same("lacks", x -> x.lacks(station), m -> m.lacks(station)); break;
            default:
                int total = number(0, 15);
                same("count", x -> x.count(total), m -> m.count(total));
        }
    }
}
