import java.util.Random;
import java.util.TreeSet;

/** Random runs of calls, in which the class has to answer as the model does. */
public final class ModelTest {
    private static final int CALLS = 512;
    private static final String SIGNS = "sltrpx0123456789>@+^=;";

    private final Due due = new Due();
    private Random random;
    private PassingTrack track;
    private Model model;
    /** The pad is filled by pieces of a text, so that whole orders come about. */
    private String toPut = "";

    public static void main(String[] args) {
        int firstSeed = args.length > 1 ? Integer.parseInt(args[0]) : 1;
        int runs = args.length > 1 ? Integer.parseInt(args[1]) : 80;
        ModelTest test = new ModelTest();
        for (int seed = firstSeed; seed < firstSeed + runs; seed++) {
            test.run(seed);
            test.runOrders(seed);
            // All of a day takes the model as long as some runs.
            if (seed % 8 == 0) {
                test.runWholeDay(seed);
            }
        }
        test.due.end("ModelTest");
    }

    private void start(String about, int seed) {
        due.about(about + " " + seed);
        random = new Random(seed);
        track = new PassingTrack();
        model = new Model();
    }

    /** A line with a few shuttles close to one another, so that their best order is seldom the first one. */
    private void runOrders(int seed) {
        start("orders", seed);
        int shuttles = 2 + seed % 4;
        for (int stretch = 0; stretch < 7; stretch++) {
            int minutes = 1 + random.nextInt(30);
            due.is("running()", track.running(stretch, minutes), model.running(stretch, minutes));
        }
        for (int station = 0; station < 8; station++) {
            int tracks = 1 + random.nextInt(3);
            due.is("tracks()", track.tracks(station, tracks), model.tracks(station, tracks));
        }
        for (int shuttle = 0; shuttle < shuttles; shuttle++) {
            int begin = random.nextInt(6);
            int end = begin + 1 + random.nextInt(2);
            boolean up = random.nextBoolean();
            int earliest = random.nextInt(30);
            int stop = random.nextInt(5);
            due.is("shuttle()", track.shuttle(up ? begin : end, up ? end : begin, earliest, stop, 0),
                model.shuttle(up ? begin : end, up ? end : begin, earliest, stop, 0));
        }
        int first = random.nextInt(3);
        due.is("first()", track.first(first), model.first(first));
        for (int place = 0; place <= shuttles; place++) {
            due.is("bestOrder(" + place + ")", track.bestOrder(place), model.bestOrder(place));
        }
    }

    /** All that can be asked about the day of a line; a new object for each part, since an object takes 512 calls. */
    private void runWholeDay(int seed) {
        makeLine(seed);
        for (int what = 0; what < 6; what++) {
            due.is("day(" + what + ")", track.day(what), model.day(what));
        }
        for (int meeting = 0; meeting <= model.day(3); meeting++) {
            for (int what = 0; what < 4; what++) {
                due.is("meeting(" + meeting + ", " + what + ")", track.meeting(meeting, what), model.meeting(meeting, what));
            }
        }
        int shuttles = model.count(0);
        for (int shuttle = 0; shuttle < shuttles; shuttle++) {
            askAllOf(shuttle);
        }
        for (int shuttle = 0; shuttle < shuttles; shuttle++) {
            makeLine(seed);
            askMinutes(shuttle);
        }
    }

    /** Many shuttles at about the same time, and few tracks. */
    private void makeLine(int seed) {
        start("whole day", seed);
        int first = random.nextInt(3);
        due.is("first(" + first + ")", track.first(first), model.first(first));
        for (int station = 0; station < 8; station++) {
            int tracks = 1 + random.nextInt(1 + random.nextInt(4));
            due.is("tracks()", track.tracks(station, tracks), model.tracks(station, tracks));
        }
        for (int stretch = 0; stretch < 7; stretch++) {
            int minutes = 1 + random.nextInt(30);
            due.is("running()", track.running(stretch, minutes), model.running(stretch, minutes));
        }
        int shuttles = 1 + random.nextInt(8);
        for (int shuttle = 0; shuttle < shuttles; shuttle++) {
            makeShuttle();
        }
    }

    private void askAllOf(int shuttle) {
        for (int what = 0; what < 13; what++) {
            due.is("ofShuttle(" + shuttle + ", " + what + ")", track.ofShuttle(shuttle, what), model.ofShuttle(shuttle, what));
        }
        for (int station = 0; station < 8; station++) {
            for (int what = 0; what < 2; what++) {
                due.is("when(" + shuttle + ", " + station + ", " + what + ")",
                    track.when(shuttle, station, what), model.when(shuttle, station, what));
            }
        }
    }

    /** Where a shuttle is, and why it waits, around the minutes in which something becomes different. */
    private void askMinutes(int shuttle) {
        TreeSet<Integer> minutes = new TreeSet<>();
        addAround(minutes, model.day(0));
        addAround(minutes, model.ofShuttle(shuttle, 2));
        for (int station = 0; station < 8; station++) {
            addAround(minutes, model.when(shuttle, station, 0));
            addAround(minutes, model.when(shuttle, station, 0) + model.ofShuttle(shuttle, 3));
            addAround(minutes, model.when(shuttle, station, 1));
        }
        for (int minute : minutes) {
            due.is("at(" + shuttle + ", " + minute + ")", track.at(shuttle, minute), model.at(shuttle, minute));
            due.is("why(" + shuttle + ", " + minute + ")", track.why(shuttle, minute), model.why(shuttle, minute));
        }
    }

    private static void addAround(TreeSet<Integer> minutes, int minute) {
        minutes.add(minute - 1);
        minutes.add(minute);
        minutes.add(minute + 1);
    }

    private void run(int seed) {
        start("seed", seed);
        toPut = "";
        boolean crowded = random.nextBoolean();
        int shuttlesAtFirst = crowded ? 8 : random.nextInt(6);
        for (int i = 0; i < shuttlesAtFirst; i++) {
            makeShuttle();
        }
        for (int call = shuttlesAtFirst; call < CALLS; call++) {
            int kind = random.nextInt(100);
            if (kind < 30) {
                change();
            } else if (kind < 65) {
                askDay();
            } else if (kind < 75) {
                askWhatIf();
            } else if (kind < 92) {
                text();
            } else {
                undoOrSave();
            }
        }
    }

    /** A number of a range, now and then one that is just, or far, outside. */
    private int of(int low, int high) {
        int chance = random.nextInt(60);
        if (chance == 0) {
            return low - 1;
        }
        if (chance == 1) {
            return high + 1;
        }
        if (chance == 2) {
            return random.nextBoolean() ? Integer.MAX_VALUE : Integer.MIN_VALUE;
        }
        if (chance < 6) {
            return random.nextBoolean() ? low : high;
        }
        return low + random.nextInt(high - low + 1);
    }

    private int shuttleNumber() {
        int number = model.count(0);
        return of(0, Math.max(number - 1, 0));
    }

    private void makeShuttle() {
        int begin = random.nextInt(3) == 0 ? of(0, 7) : random.nextBoolean() ? 0 : 7;
        int end = random.nextInt(3) == 0 ? of(0, 7) : 7 - begin;
        int earliest = random.nextInt(3) == 0 ? of(0, 300) : random.nextInt(40);
        int stop = random.nextInt(3) == 0 ? of(0, 20) : random.nextInt(4);
        int priority = of(0, 9);
        due.is("shuttle(" + begin + ", " + end + ", " + earliest + ", " + stop + ", " + priority + ")",
            track.shuttle(begin, end, earliest, stop, priority), model.shuttle(begin, end, earliest, stop, priority));
    }

    private void change() {
        int a = shuttleNumber();
        switch (random.nextInt(8)) {
            case 0:
                int first = of(0, 2);
                due.is("first(" + first + ")", track.first(first), model.first(first));
                break;
            case 1:
                int station = of(0, 7);
                int tracks = of(1, 4);
                due.is("tracks(" + station + ", " + tracks + ")",
                    track.tracks(station, tracks), model.tracks(station, tracks));
                break;
            case 2:
                int stretch = of(0, 6);
                int minutes = of(1, 30);
                due.is("running(" + stretch + ", " + minutes + ")",
                    track.running(stretch, minutes), model.running(stretch, minutes));
                break;
            case 3:
                int later = random.nextBoolean() ? of(1, 300) : 1 + random.nextInt(30);
                due.is("late(" + a + ", " + later + ")", track.late(a, later), model.late(a, later));
                break;
            case 4:
                int priority = of(0, 9);
                due.is("prefer(" + a + ", " + priority + ")", track.prefer(a, priority), model.prefer(a, priority));
                break;
            case 5:
                due.is("remove(" + a + ")", track.remove(a), model.remove(a));
                break;
            default:
                makeShuttle();
        }
    }

    private void askDay() {
        int a = shuttleNumber();
        int minute = random.nextInt(8) == 0 ? of(0, 9999) : random.nextInt(model.day(0) + 3);
        switch (random.nextInt(7)) {
            case 0:
            case 1:
                int what = of(0, 12);
                due.is("ofShuttle(" + a + ", " + what + ")", track.ofShuttle(a, what), model.ofShuttle(a, what));
                break;
            case 2:
                int number = of(0, 18);
                due.is("count(" + number + ")", track.count(number), model.count(number));
                int part = of(0, 5);
                due.is("day(" + part + ")", track.day(part), model.day(part));
                break;
            case 3:
                due.is("at(" + a + ", " + minute + ")", track.at(a, minute), model.at(a, minute));
                break;
            case 4:
                int station = of(0, 7);
                int way = of(0, 1);
                due.is("when(" + a + ", " + station + ", " + way + ")",
                    track.when(a, station, way), model.when(a, station, way));
                break;
            case 5:
                due.is("why(" + a + ", " + minute + ")", track.why(a, minute), model.why(a, minute));
                break;
            default:
                int meeting = of(0, Math.max(model.day(3), 1) - 1);
                int of = of(0, 3);
                due.is("meeting(" + meeting + ", " + of + ")", track.meeting(meeting, of), model.meeting(meeting, of));
        }
    }

    private void askWhatIf() {
        switch (random.nextInt(4)) {
            case 0:
                int a = shuttleNumber();
                int later = random.nextBoolean() ? of(1, 300) : 1 + random.nextInt(30);
                due.is("delayIfLate(" + a + ", " + later + ")", track.delayIfLate(a, later), model.delayIfLate(a, later));
                break;
            case 1:
                int stretch = of(0, 6);
                int minutes = of(1, 30);
                due.is("delayIfSlow(" + stretch + ", " + minutes + ")",
                    track.delayIfSlow(stretch, minutes), model.delayIfSlow(stretch, minutes));
                break;
            case 2:
                int what = of(0, 1);
                due.is("bestTrack(" + what + ")", track.bestTrack(what), model.bestTrack(what));
                break;
            default:
                // The model takes its time for 120 orders.
                int place = of(0, model.count(0));
                if (model.count(0) < 5 || random.nextInt(4) == 0) {
                    due.is("bestOrder(" + place + ")", track.bestOrder(place), model.bestOrder(place));
                }
        }
    }

    private void text() {
        int kind = random.nextInt(20);
        if (kind == 0) {
            due.is("wipe()", track.wipe(), model.wipe());
            toPut = "";
        } else if (kind < 4) {
            due.is("fault()", track.fault(), model.fault());
        } else if (kind < 6 || toPut.isEmpty() && kind < 12) {
            due.is("carryOut()", track.carryOut(), model.carryOut());
        } else if (kind == 6) {
            long any = random.nextBoolean() ? random.nextLong() : random.nextInt(1 << 24);
            due.is("put(" + any + ")", track.put(any), model.put(any));
        } else {
            putPiece();
        }
    }

    private void putPiece() {
        if (toPut.isEmpty()) {
            toPut = randomText();
        }
        int length = Math.min(1 + random.nextInt(8), toPut.length());
        long characters = 0;
        for (int i = 0; i < length; i++) {
            characters = characters << 8 | toPut.charAt(i);
        }
        toPut = toPut.substring(length);
        due.is("put(" + characters + ")", track.put(characters), model.put(characters));
    }

    private String randomText() {
        StringBuilder text = new StringBuilder();
        if (model.count(2) > 0 && random.nextInt(4) != 0) {
            text.append(';');
        }
        int orders = 1 + random.nextInt(3);
        for (int i = 0; i < orders; i++) {
            text.append(i > 0 ? ";" : "").append(randomOrder());
        }
        if (random.nextInt(6) == 0) {
            int at = random.nextInt(text.length());
            text.setCharAt(at, SIGNS.charAt(random.nextInt(SIGNS.length())));
        }
        return text.toString();
    }

    private String randomOrder() {
        int a = random.nextInt(random.nextInt(6) == 0 ? 9 : Math.max(model.count(0), 1));
        switch (random.nextInt(6)) {
            case 0:
                return "s" + random.nextInt(8) + ">" + random.nextInt(8) + "@" + number(301)
                    + (random.nextBoolean() ? "+" + number(21) : "") + (random.nextBoolean() ? "^" + random.nextInt(10) : "");
            case 1:
                return "l" + a + "+" + number(60);
            case 2:
                return "t" + random.nextInt(8) + "=" + (1 + number(4));
            case 3:
                return "r" + random.nextInt(7) + "=" + (1 + number(30));
            case 4:
                return "p" + a + "=" + random.nextInt(10);
            default:
                return "x" + a;
        }
    }

    private int number(int limit) {
        return random.nextInt(12) == 0 ? random.nextInt(1100) : random.nextInt(limit);
    }

    private void undoOrSave() {
        int slot = of(0, 1);
        int kind = random.nextInt(4);
        if (kind < 2) {
            due.is("undo()", track.undo(), model.undo());
        } else if (kind == 2) {
            due.is("save(" + slot + ")", track.save(slot), model.save(slot));
        } else {
            due.is("restore(" + slot + ")", track.restore(slot), model.restore(slot));
        }
    }
}
