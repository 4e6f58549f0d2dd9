import java.util.Arrays;

/**
 * Shuttles on one track with passing places. What each call answers is promised in ../shared/DOC.md.
 *
 * <p>All rows are made in the constructors and used again, so that no call makes an object.
 */
public final class PassingTrack {
    public static final int NO_SUCH = -1, BAD_VALUE = -2, BAD_TEXT = -3, TOO_MANY = -4, NOT_POSSIBLE = -5, NONE = -6;

    private static final int STATIONS = 8;
    private static final int STRETCHES = 7;
    private static final int SHUTTLES = 8;
    private static final int MOST_TRACKS = 4;
    private static final int MOST_RUNNING = 30;
    private static final int MOST_STOP = 20;
    private static final int MOST_PRIORITY = 9;
    private static final int LATEST_START = 300;
    private static final int LATEST_ASKED = 9999;
    private static final int PAD_LENGTH = 80;
    private static final int HISTORY = 6;
    private static final int SLOTS = 2;
    private static final int MOST_ORDERED = 5;
    private static final int MOST_ORDERS = 120;
    /** A day has at most some 15 events for each shuttle. */
    private static final int MOST_EVENTS = 1000;

    private final Day day = new Day();
    private final Line line = day.line;
    /** A copy of the line in which something is tried, and its day. */
    private final Day trialDay = new Day();
    private final Line trial = trialDay.line;
    /** The line ahead of the change that is going on. */
    private final Line before = new Line();
    private final Waits waits = new Waits();
    private final Meetings meetings = new Meetings();
    private final Orders orders = new Orders();
    private final Pad pad = new Pad();
    private final History history = new History();
    private final Line[] slots = new Line[SLOTS];
    private final boolean[] saved = new boolean[SLOTS];

    public PassingTrack() {
        for (int slot = 0; slot < SLOTS; slot++) {
            slots[slot] = new Line();
        }
    }

    // ---- changes

    public int first(int first) {
        before.copyFrom(line);
        return changed(line.setFirst(first));
    }

    public int tracks(int station, int tracks) {
        before.copyFrom(line);
        return changed(line.setTracks(station, tracks));
    }

    public int running(int stretch, int minutes) {
        before.copyFrom(line);
        return changed(line.setRunning(stretch, minutes));
    }

    public int shuttle(int begin, int end, int earliest, int stop, int priority) {
        before.copyFrom(line);
        return changed(line.addShuttle(begin, end, earliest, stop, priority));
    }

    public int late(int shuttle, int minutes) {
        before.copyFrom(line);
        return changed(line.startLater(shuttle, minutes));
    }

    public int prefer(int shuttle, int priority) {
        before.copyFrom(line);
        return changed(line.setPriority(shuttle, priority));
    }

    public int remove(int shuttle) {
        before.copyFrom(line);
        return changed(line.takeAway(shuttle));
    }

    /** Records the state before a change, unless the change answered with an error. */
    private int changed(int answer) {
        if (answer >= 0) {
            history.keep(before);
        }
        return answer;
    }

    // ---- what there is

    public int ofShuttle(int shuttle, int what) {
        if (!line.hasShuttle(shuttle)) {
            return NO_SUCH;
        }
        if (what < 0 || what > 12) {
            return BAD_VALUE;
        }
        if (what <= 5) {
            return line.number(shuttle, what);
        }
        day.run();
        if (what == 6) {
            return day.endMinute(shuttle);
        }
        if (what == 7) {
            return day.delayOf(shuttle);
        }
        waits.gather(day, shuttle);
        if (what == 8) {
            return waits.total();
        }
        return what == 12 ? waits.mostBlamed() : waits.forReason(what - 8);
    }

    public int count(int what) {
        if (what < 0 || what > 18) {
            return BAD_VALUE;
        }
        switch (what) {
            case 0:
                return line.shuttles;
            case 1:
                return line.whoGoesFirst;
            case 2:
                return pad.length;
            case 3:
                return history.kept;
            default:
                return what < 12 ? line.tracksOf[what - 4] : line.runningOf[what - 12];
        }
    }

    public int day(int what) {
        if (what < 0 || what > 5) {
            return BAD_VALUE;
        }
        day.run();
        switch (what) {
            case 0:
                return day.last;
            case 1:
                return day.delay();
            case 2:
                return day.stuck;
            case 3:
                meetings.gather(day);
                return meetings.number;
            case 4:
                return day.waitedMinutes();
            default:
                return day.greatestDelay();
        }
    }

    public int at(int shuttle, int minute) {
        if (!line.hasShuttle(shuttle)) {
            return NO_SUCH;
        }
        if (minute < 0 || minute > LATEST_ASKED) {
            return BAD_VALUE;
        }
        day.run();
        return day.placeAt(shuttle, minute);
    }

    public int when(int shuttle, int station, int what) {
        if (!line.hasShuttle(shuttle) || !isStation(station)) {
            return NO_SUCH;
        }
        if (what != 0 && what != 1) {
            return BAD_VALUE;
        }
        day.run();
        return what == 0 ? day.comes[shuttle][station] : day.leaves[shuttle][station];
    }

    public int why(int shuttle, int minute) {
        if (!line.hasShuttle(shuttle)) {
            return NO_SUCH;
        }
        if (minute < 0 || minute > LATEST_ASKED) {
            return BAD_VALUE;
        }
        day.run();
        return day.reasonAt(shuttle, minute);
    }

    public int meeting(int meeting, int what) {
        day.run();
        meetings.gather(day);
        if (meeting < 0 || meeting >= meetings.number) {
            return NO_SUCH;
        }
        if (what < 0 || what > 3) {
            return BAD_VALUE;
        }
        return meetings.part(meeting, what);
    }

    // ---- what if; nothing changes

    public int delayIfLate(int shuttle, int minutes) {
        trial.copyFrom(line);
        int answer = trial.startLater(shuttle, minutes);
        return answer < 0 ? answer : trialDelay();
    }

    public int delayIfSlow(int stretch, int minutes) {
        trial.copyFrom(line);
        int answer = trial.setRunning(stretch, minutes);
        return answer < 0 ? answer : trialDelay();
    }

    public int bestTrack(int what) {
        if (what != 0 && what != 1) {
            return BAD_VALUE;
        }
        int bestStation = NONE;
        int bestDelay = NONE;
        for (int station = 0; station < STATIONS; station++) {
            trial.copyFrom(line);
            // A station with 4 tracks refuses one more.
            int answer = trial.setTracks(station, line.tracksOf[station] + 1);
            int delay = answer < 0 ? NONE : trialDelay();
            if (delay >= 0 && (bestDelay < 0 || delay < bestDelay)) {
                bestStation = station;
                bestDelay = delay;
            }
        }
        return what == 0 ? bestStation : bestDelay;
    }

    public int bestOrder(int what) {
        if (what < 0 || what > line.shuttles) {
            return BAD_VALUE;
        }
        if (line.shuttles > MOST_ORDERED) {
            return NOT_POSSIBLE;
        }
        trial.copyFrom(line);
        orders.tryAll(trialDay);
        if (what == 0 || orders.bestDelay < 0) {
            return orders.bestDelay;
        }
        return orders.best[what - 1];
    }

    private int trialDelay() {
        trialDay.run();
        return trialDay.delay();
    }

    // ---- texts

    public int put(long characters) {
        int number = Pad.charactersIn(characters);
        if (number == 0) {
            return BAD_VALUE;
        }
        return pad.append(characters, number);
    }

    public int wipe() {
        return pad.empty();
    }

    public int fault() {
        return pad.findFault();
    }

    public int carryOut() {
        if (pad.findFault() != NONE) {
            return BAD_TEXT;
        }
        before.copyFrom(line);
        int done = pad.obey(line);
        pad.empty();
        return changed(done);
    }

    // ---- undo, saving

    public int undo() {
        if (history.kept == 0) {
            return NOT_POSSIBLE;
        }
        return history.giveBack(line);
    }

    public int save(int slot) {
        if (!isSlot(slot)) {
            return BAD_VALUE;
        }
        slots[slot].copyFrom(line);
        saved[slot] = true;
        return line.shuttles;
    }

    public int restore(int slot) {
        if (!isSlot(slot)) {
            return BAD_VALUE;
        }
        if (!saved[slot]) {
            return NOT_POSSIBLE;
        }
        before.copyFrom(line);
        line.copyFrom(slots[slot]);
        return changed(line.shuttles);
    }

    private static boolean isSlot(int slot) {
        return slot >= 0 && slot < SLOTS;
    }

    private static boolean isStation(int station) {
        return station >= 0 && station < STATIONS;
    }

    private static boolean isStretch(int stretch) {
        return stretch >= 0 && stretch < STRETCHES;
    }

    /**
     * The line with its shuttles and the setting FIRST: all that is undone, saved and tried.
     *
     * <p>A shuttle's begin and end are two different stations, since addShuttle() takes no others; so a shuttle
     * that is not at its end has a stretch and a station ahead of it.
     */
    private static final class Line {
        final int[] tracksOf = new int[STATIONS];
        final int[] runningOf = new int[STRETCHES];
        final int[] begin = new int[SHUTTLES];
        final int[] end = new int[SHUTTLES];
        final int[] earliest = new int[SHUTTLES];
        final int[] stop = new int[SHUTTLES];
        final int[] priority = new int[SHUTTLES];
        int shuttles;
        int whoGoesFirst;

        Line() {
            Arrays.fill(tracksOf, 2);
            Arrays.fill(runningOf, 10);
        }

        void copyFrom(Line other) {
            System.arraycopy(other.tracksOf, 0, tracksOf, 0, STATIONS);
            System.arraycopy(other.runningOf, 0, runningOf, 0, STRETCHES);
            System.arraycopy(other.begin, 0, begin, 0, SHUTTLES);
            System.arraycopy(other.end, 0, end, 0, SHUTTLES);
            System.arraycopy(other.earliest, 0, earliest, 0, SHUTTLES);
            System.arraycopy(other.stop, 0, stop, 0, SHUTTLES);
            System.arraycopy(other.priority, 0, priority, 0, SHUTTLES);
            shuttles = other.shuttles;
            whoGoesFirst = other.whoGoesFirst;
        }

        boolean hasShuttle(int shuttle) {
            return shuttle >= 0 && shuttle < shuttles;
        }

        int setFirst(int setting) {
            if (setting < 0 || setting > 2) {
                return BAD_VALUE;
            }
            int previous = whoGoesFirst;
            whoGoesFirst = setting;
            return previous;
        }

        int setTracks(int station, int number) {
            if (!isStation(station)) {
                return NO_SUCH;
            }
            if (number < 1 || number > MOST_TRACKS) {
                return BAD_VALUE;
            }
            int previous = tracksOf[station];
            tracksOf[station] = number;
            return previous;
        }

        int setRunning(int stretch, int minutes) {
            if (!isStretch(stretch)) {
                return NO_SUCH;
            }
            if (minutes < 1 || minutes > MOST_RUNNING) {
                return BAD_VALUE;
            }
            int previous = runningOf[stretch];
            runningOf[stretch] = minutes;
            return previous;
        }

        int addShuttle(int from, int to, int minute, int minutes, int rank) {
            if (!isStation(from) || !isStation(to)) {
                return NO_SUCH;
            }
            if (from == to || minute < 0 || minute > LATEST_START) {
                return BAD_VALUE;
            }
            if (minutes < 0 || minutes > MOST_STOP || rank < 0 || rank > MOST_PRIORITY) {
                return BAD_VALUE;
            }
            if (shuttles >= SHUTTLES) {
                return TOO_MANY;
            }
            begin[shuttles] = from;
            end[shuttles] = to;
            earliest[shuttles] = minute;
            stop[shuttles] = minutes;
            priority[shuttles] = rank;
            shuttles++;
            return shuttles - 1;
        }

        int startLater(int shuttle, int minutes) {
            if (!hasShuttle(shuttle)) {
                return NO_SUCH;
            }
            if (minutes < 1 || minutes > LATEST_START || earliest[shuttle] + minutes > LATEST_START) {
                return BAD_VALUE;
            }
            earliest[shuttle] += minutes;
            return earliest[shuttle];
        }

        int setPriority(int shuttle, int rank) {
            if (!hasShuttle(shuttle)) {
                return NO_SUCH;
            }
            if (rank < 0 || rank > MOST_PRIORITY) {
                return BAD_VALUE;
            }
            int previous = priority[shuttle];
            priority[shuttle] = rank;
            return previous;
        }

        int takeAway(int shuttle) {
            if (!hasShuttle(shuttle)) {
                return NO_SUCH;
            }
            shuttles--;
            for (int moved = shuttle; moved < shuttles; moved++) {
                begin[moved] = begin[moved + 1];
                end[moved] = end[moved + 1];
                earliest[moved] = earliest[moved + 1];
                stop[moved] = stop[moved + 1];
                priority[moved] = priority[moved + 1];
            }
            return shuttles;
        }

        /** What ofShuttle() tells for 0 to 5: what is known of a shuttle without the day. */
        int number(int shuttle, int what) {
            switch (what) {
                case 0:
                    return begin[shuttle];
                case 1:
                    return end[shuttle];
                case 2:
                    return earliest[shuttle];
                case 3:
                    return stop[shuttle];
                case 4:
                    return priority[shuttle];
                default:
                    return wayLeft(shuttle, begin[shuttle]);
            }
        }

        boolean goesUp(int shuttle) {
            return end[shuttle] > begin[shuttle];
        }

        int nextStation(int shuttle, int station) {
            return goesUp(shuttle) ? station + 1 : station - 1;
        }

        int stretchAhead(int shuttle, int station) {
            return goesUp(shuttle) ? station : station - 1;
        }

        /** The minutes from leaving a station on the way to the end, if nobody is in the way. */
        int wayLeft(int shuttle, int station) {
            int low = Math.min(station, end[shuttle]);
            int high = Math.max(station, end[shuttle]);
            int minutes = Math.max(high - low - 1, 0) * stop[shuttle];
            for (int stretch = low; stretch < high; stretch++) {
                minutes += runningOf[stretch];
            }
            return minutes;
        }
    }

    /**
     * The day of a line. It is run from event to event, since nobody can leave in a minute
     * in which nobody comes into a station and nobody becomes ready.
     */
    private static final class Day {
        final Line line = new Line();
        /** The minutes in which the shuttles come into the stations, and leave them; NONE if they do not. */
        final int[][] comes = new int[SHUTTLES][STATIONS];
        final int[][] leaves = new int[SHUTTLES][STATIONS];
        int last;
        int stuck;

        /** The station at which a shuttle is, or which is behind it on its stretch. */
        private final int[] station = new int[SHUTTLES];
        private final boolean[] rides = new boolean[SHUTTLES];
        /** The minute in which a shuttle comes into the next station if it rides, else becomes ready. */
        private final int[] due = new int[SHUTTLES];
        /** What FIRST looks at ahead of the priorities: the one with the most goes first. */
        private final int[] urgency = new int[SHUTTLES];
        private final boolean[] busy = new boolean[STRETCHES];
        /** The tracks that are taken or promised. */
        private final int[] held = new int[STATIONS];

        void run() {
            putOutside();
            last = 0;
            int minute = 0;
            for (int events = 0; events < MOST_EVENTS && minute >= 0; events++) {
                last = minute;
                comeIn(minute);
                letLeave(minute);
                minute = nextEvent(minute);
            }
            stuck = notAtEnd();
        }

        private void putOutside() {
            for (int stretch = 0; stretch < STRETCHES; stretch++) {
                busy[stretch] = false;
            }
            Arrays.fill(held, 0);
            for (int shuttle = 0; shuttle < line.shuttles; shuttle++) {
                Arrays.fill(comes[shuttle], NONE);
                Arrays.fill(leaves[shuttle], NONE);
                stand(shuttle, line.begin[shuttle], line.earliest[shuttle]);
            }
        }

        private void stand(int shuttle, int place, int readyMinute) {
            station[shuttle] = place;
            rides[shuttle] = false;
            due[shuttle] = readyMinute;
            urgency[shuttle] = 0;
            if (line.whoGoesFirst == 1) {
                urgency[shuttle] = -readyMinute;
            }
            if (line.whoGoesFirst == 2) {
                urgency[shuttle] = line.wayLeft(shuttle, place);
            }
        }

        private boolean isAtEnd(int shuttle) {
            return station[shuttle] == line.end[shuttle];
        }

        /** Step 1 of a minute. */
        private void comeIn(int minute) {
            for (int shuttle = 0; shuttle < line.shuttles; shuttle++) {
                if (rides[shuttle] && due[shuttle] == minute) {
                    int place = line.nextStation(shuttle, station[shuttle]);
                    busy[line.stretchAhead(shuttle, station[shuttle])] = false;
                    comes[shuttle][place] = minute;
                    stand(shuttle, place, minute + line.stop[shuttle]);
                }
            }
        }

        /** Step 2 of a minute; nobody leaves twice in one, since a stretch takes a minute at least. */
        private void letLeave(int minute) {
            for (int left = 0; left < SHUTTLES; left++) {
                int shuttle = firstToLeave(minute);
                if (shuttle < 0) {
                    return;
                }
                leave(shuttle, minute);
            }
        }

        private int firstToLeave(int minute) {
            int foremost = NONE;
            for (int shuttle = 0; shuttle < line.shuttles; shuttle++) {
                if (canLeave(shuttle, minute) && (foremost < 0 || goesBefore(shuttle, foremost))) {
                    foremost = shuttle;
                }
            }
            return foremost;
        }

        private boolean canLeave(int shuttle, int minute) {
            if (isAtEnd(shuttle) || rides[shuttle] || due[shuttle] > minute) {
                return false;
            }
            if (busy[line.stretchAhead(shuttle, station[shuttle])]) {
                return false;
            }
            int next = line.nextStation(shuttle, station[shuttle]);
            return next == line.end[shuttle] || held[next] < line.tracksOf[next];
        }

        /** Whether a shuttle goes before another one with a lower number. */
        private boolean goesBefore(int shuttle, int lower) {
            if (urgency[shuttle] != urgency[lower]) {
                return urgency[shuttle] > urgency[lower];
            }
            return line.priority[shuttle] > line.priority[lower];
        }

        private void leave(int shuttle, int minute) {
            int from = station[shuttle];
            int next = line.nextStation(shuttle, from);
            int stretch = line.stretchAhead(shuttle, from);
            if (from != line.begin[shuttle]) {
                held[from]--;
            }
            if (next != line.end[shuttle]) {
                held[next]++;
            }
            busy[stretch] = true;
            rides[shuttle] = true;
            leaves[shuttle][from] = minute;
            due[shuttle] = minute + line.runningOf[stretch];
        }

        /** The next minute in which somebody comes into a station or becomes ready, NONE if there is none. */
        private int nextEvent(int minute) {
            int next = NONE;
            for (int shuttle = 0; shuttle < line.shuttles; shuttle++) {
                if (!isAtEnd(shuttle) && due[shuttle] > minute && (next < 0 || due[shuttle] < next)) {
                    next = due[shuttle];
                }
            }
            return next;
        }

        private int notAtEnd() {
            int set = 0;
            for (int shuttle = 0; shuttle < line.shuttles; shuttle++) {
                if (!isAtEnd(shuttle)) {
                    set |= 1 << shuttle;
                }
            }
            return set;
        }

        /** NONE if the shuttle is stuck. */
        int endMinute(int shuttle) {
            return comes[shuttle][line.end[shuttle]];
        }

        /** NONE if the shuttle is stuck. */
        int delayOf(int shuttle) {
            int minute = endMinute(shuttle);
            if (minute < 0) {
                return NONE;
            }
            return minute - line.earliest[shuttle] - line.wayLeft(shuttle, line.begin[shuttle]);
        }

        /** NONE if some shuttle is stuck. */
        int delay() {
            if (stuck != 0) {
                return NONE;
            }
            int sum = 0;
            for (int shuttle = 0; shuttle < line.shuttles; shuttle++) {
                sum += delayOf(shuttle);
            }
            return sum;
        }

        /** NONE if no shuttle comes to its end. */
        int greatestDelay() {
            int greatest = NONE;
            for (int shuttle = 0; shuttle < line.shuttles; shuttle++) {
                greatest = Math.max(greatest, delayOf(shuttle));
            }
            return greatest;
        }

        /** Whether a shuttle came onto a track of a station. */
        boolean wasOnTrack(int shuttle, int place) {
            return comes[shuttle][place] >= 0 && place != line.end[shuttle];
        }

        /** Whether a shuttle was outside or on a track at a station. */
        boolean stoodAt(int shuttle, int place) {
            return place == line.begin[shuttle] || wasOnTrack(shuttle, place);
        }

        /** The minute in which a shuttle that stood at a station became ready there. */
        int readyAt(int shuttle, int place) {
            if (place == line.begin[shuttle]) {
                return line.earliest[shuttle];
            }
            return comes[shuttle][place] + line.stop[shuttle];
        }

        /** The first minute in which a shuttle that stood at a station stood there no more behind step 2. */
        int goneFrom(int shuttle, int place) {
            return leaves[shuttle][place] >= 0 ? leaves[shuttle][place] : last + 1;
        }

        int waitedMinutes() {
            int sum = 0;
            for (int shuttle = 0; shuttle < line.shuttles; shuttle++) {
                for (int place = 0; place < STATIONS; place++) {
                    if (stoodAt(shuttle, place)) {
                        sum += goneFrom(shuttle, place) - readyAt(shuttle, place);
                    }
                }
            }
            return sum;
        }

        int placeAt(int shuttle, int minute) {
            int place = line.begin[shuttle];
            int legs = Math.abs(line.end[shuttle] - place);
            for (int leg = 0; leg < legs; leg++) {
                if (leaves[shuttle][place] < 0 || leaves[shuttle][place] > minute) {
                    return 2 * place;
                }
                int next = line.nextStation(shuttle, place);
                if (comes[shuttle][next] > minute) {
                    return 2 * line.stretchAhead(shuttle, place) + 1;
                }
                place = next;
            }
            return 2 * place;
        }

        int reasonAt(int shuttle, int minute) {
            int where = placeAt(shuttle, minute);
            int place = where / 2;
            if (minute > last || where % 2 == 1 || place == line.end[shuttle] || minute < readyAt(shuttle, place)) {
                return 0;
            }
            int stretch = line.stretchAhead(shuttle, place);
            for (int other = 0; other < line.shuttles; other++) {
                if (minutesOn(other, stretch, minute, minute + 1) > 0) {
                    return reasonFor(shuttle, other);
                }
            }
            return 3;
        }

        /** The reason of a wait for which another shuttle is to blame. */
        int reasonFor(int shuttle, int other) {
            return line.goesUp(shuttle) == line.goesUp(other) ? 2 : 1;
        }

        /** In how many minutes, from one and ahead of another, a shuttle is on a stretch behind step 2. */
        int minutesOn(int shuttle, int stretch, int from, int ahead) {
            int behind = line.goesUp(shuttle) ? stretch : stretch + 1;
            int minute = leaves[shuttle][behind];
            if (minute < 0) {
                return 0;
            }
            int until = minute + line.runningOf[stretch];
            return Math.max(Math.min(until, ahead) - Math.max(minute, from), 0);
        }
    }

    /** The waits of one shuttle in a day, by their reasons and by who is to blame. */
    private static final class Waits {
        private final int[] reasons = new int[4];
        private final int[] blames = new int[SHUTTLES];

        void gather(Day day, int shuttle) {
            Arrays.fill(reasons, 0);
            Arrays.fill(blames, 0);
            for (int place = 0; place < STATIONS; place++) {
                if (day.stoodAt(shuttle, place)) {
                    gatherAt(day, shuttle, place);
                }
            }
        }

        private void gatherAt(Day day, int shuttle, int place) {
            int from = day.readyAt(shuttle, place);
            int ahead = day.goneFrom(shuttle, place);
            int stretch = day.line.stretchAhead(shuttle, place);
            int unblamed = ahead - from;
            for (int other = 0; other < day.line.shuttles; other++) {
                int minutes = day.minutesOn(other, stretch, from, ahead);
                reasons[day.reasonFor(shuttle, other)] += minutes;
                blames[other] += minutes;
                unblamed -= minutes;
            }
            reasons[3] += unblamed;
        }

        int forReason(int reason) {
            return reasons[reason];
        }

        int total() {
            return reasons[1] + reasons[2] + reasons[3];
        }

        /** NONE if nobody is to blame. */
        int mostBlamed() {
            int most = NONE;
            for (int other = 0; other < SHUTTLES; other++) {
                if (blames[other] > 0 && (most < 0 || blames[other] > blames[most])) {
                    most = other;
                }
            }
            return most;
        }
    }

    /** The meetings of a day in their order. */
    private static final class Meetings {
        /** A row for each pair is enough: two that have met go away from one another. */
        private final int[] rows = new int[SHUTTLES * SHUTTLES];
        int number;

        void gather(Day day) {
            number = 0;
            for (int low = 0; low < day.line.shuttles; low++) {
                for (int high = low + 1; high < day.line.shuttles; high++) {
                    if (day.line.goesUp(low) != day.line.goesUp(high)) {
                        gatherPair(day, low, high);
                    }
                }
            }
        }

        private void gatherPair(Day day, int low, int high) {
            for (int place = 0; place < STATIONS; place++) {
                if (day.wasOnTrack(low, place) && day.wasOnTrack(high, place)) {
                    int minute = Math.max(day.comes[low][place], day.comes[high][place]);
                    // The one that leaves in this minute is still on its track behind step 1.
                    if (isThere(day, low, place, minute) && isThere(day, high, place, minute)) {
                        insert(((minute * STATIONS + place) * SHUTTLES + low) * SHUTTLES + high);
                    }
                }
            }
        }

        private static boolean isThere(Day day, int shuttle, int place, int minute) {
            return day.leaves[shuttle][place] < 0 || day.leaves[shuttle][place] >= minute;
        }

        /** The numbers of a meeting stand in one row, the first one to compare highest, so that rows compare as meetings do. */
        private void insert(int row) {
            if (number >= rows.length) {
                return;
            }
            int at = number;
            while (at > 0 && rows[at - 1] > row) {
                rows[at] = rows[at - 1];
                at--;
            }
            rows[at] = row;
            number++;
        }

        int part(int meeting, int what) {
            int row = rows[meeting];
            switch (what) {
                case 0:
                    return row / (STATIONS * SHUTTLES * SHUTTLES);
                case 1:
                    return row / (SHUTTLES * SHUTTLES) % STATIONS;
                case 2:
                    return row / SHUTTLES % SHUTTLES;
                default:
                    return row % SHUTTLES;
            }
        }
    }

    /** All orders of the shuttles, and the best one. */
    private static final class Orders {
        final int[] best = new int[MOST_ORDERED];
        /** NONE if with each order some shuttle is stuck. */
        int bestDelay;
        private final int[] order = new int[MOST_ORDERED];

        /** Tries the orders, lower ones first, so that of several best ones the first one stays. */
        void tryAll(Day day) {
            int shuttles = Math.min(day.line.shuttles, MOST_ORDERED);
            for (int place = 0; place < shuttles; place++) {
                order[place] = place;
            }
            bestDelay = NONE;
            day.line.whoGoesFirst = 0;
            boolean more = true;
            for (int tried = 0; tried < MOST_ORDERS && more; tried++) {
                for (int place = 0; place < shuttles; place++) {
                    day.line.priority[order[place]] = shuttles - place;
                }
                day.run();
                keepIfBetter(day.delay(), shuttles);
                more = nextOrder(shuttles);
            }
        }

        private void keepIfBetter(int delay, int shuttles) {
            if (delay >= 0 && (bestDelay < 0 || delay < bestDelay)) {
                bestDelay = delay;
                System.arraycopy(order, 0, best, 0, shuttles);
            }
        }

        private boolean nextOrder(int shuttles) {
            int at = shuttles - 2;
            while (at >= 0 && order[at] > order[at + 1]) {
                at--;
            }
            if (at < 0) {
                return false;
            }
            int greater = shuttles - 1;
            while (greater > at && order[greater] < order[at]) {
                greater--;
            }
            swap(at, greater);
            int low = at + 1;
            int high = shuttles - 1;
            while (low < high) {
                swap(low, high);
                low++;
                high--;
            }
            return true;
        }

        private void swap(int one, int other) {
            int kept = order[one];
            order[one] = order[other];
            order[other] = kept;
        }
    }

    /** The pad, and how its orders are read. */
    private static final class Pad {
        int length;
        private final char[] text = new char[PAD_LENGTH];
        /** The index of the character to be read next. */
        private int next;
        /** The order that was read: its first letter, and its numbers as they stand in its call. */
        private int kind;
        private final int[] numbers = new int[5];

        /** How many characters a number gives, 0 if it gives none or a wrong one. */
        static int charactersIn(long characters) {
            long rest = characters;
            int number = 0;
            for (int place = 0; place < 8 && rest != 0; place++) {
                long code = rest & 255;
                if (code < 33 || code > 126) {
                    return 0;
                }
                rest >>>= 8;
                number++;
            }
            return number;
        }

        int append(long characters, int number) {
            if (length + number > PAD_LENGTH) {
                return TOO_MANY;
            }
            for (int place = number - 1; place >= 0; place--) {
                text[length] = (char) (characters >>> 8 * place & 255);
                length++;
            }
            return length;
        }

        int empty() {
            int previous = length;
            length = 0;
            return previous;
        }

        int findFault() {
            next = 0;
            for (int orders = 0; orders < PAD_LENGTH; orders++) {
                if (!readOrder()) {
                    return next;
                }
                if (next == length) {
                    return NONE;
                }
                if (!readSign(';')) {
                    return next;
                }
            }
            return next;
        }

        /** Carries out the orders of a text without a fault, and answers how many there were up to the first error. */
        int obey(Line line) {
            next = 0;
            int done = 0;
            for (int orders = 0; orders < PAD_LENGTH && next < length; orders++) {
                if (!readOrder() || obeyOrder(line) < 0) {
                    return done;
                }
                done++;
                readSign(';');
            }
            return done;
        }

        private int obeyOrder(Line line) {
            switch (kind) {
                case 's':
                    return line.addShuttle(numbers[0], numbers[1], numbers[2], numbers[3], numbers[4]);
                case 'l':
                    return line.startLater(numbers[0], numbers[1]);
                case 't':
                    return line.setTracks(numbers[0], numbers[1]);
                case 'r':
                    return line.setRunning(numbers[0], numbers[1]);
                case 'p':
                    return line.setPriority(numbers[0], numbers[1]);
                case 'x':
                    return line.takeAway(numbers[0]);
                default:
                    return BAD_TEXT;
            }
        }

        /** Reads an order; if it cannot, the next character is the fault. */
        private boolean readOrder() {
            Arrays.fill(numbers, 0);
            kind = peek();
            next++;
            switch (kind) {
                case 's':
                    return readShuttle();
                case 'l':
                    return readDigit(0, SHUTTLES) && readSign('+') && readNumber(1);
                case 't':
                    return readDigit(0, STATIONS) && readSign('=') && readNumber(1);
                case 'r':
                    return readDigit(0, STRETCHES) && readSign('=') && readNumber(1);
                case 'p':
                    return readDigit(0, SHUTTLES) && readSign('=') && readDigit(1, 10);
                case 'x':
                    return readDigit(0, SHUTTLES);
                default:
                    next--;
                    return false;
            }
        }

        private boolean readShuttle() {
            if (!readDigit(0, STATIONS) || !readSign('>') || !readDigit(1, STATIONS)) {
                return false;
            }
            if (!readSign('@') || !readNumber(2)) {
                return false;
            }
            if (readSign('+') && !readNumber(3)) {
                return false;
            }
            return !readSign('^') || readDigit(4, 10);
        }

        /** The next character, 0 behind the last one. */
        private int peek() {
            return next < length ? text[next] : 0;
        }

        private boolean readSign(char sign) {
            if (peek() != sign) {
                return false;
            }
            next++;
            return true;
        }

        /** Reads a digit below a limit as the number at a place of the call. */
        private boolean readDigit(int place, int limit) {
            int digit = peek() - '0';
            if (digit < 0 || digit >= limit) {
                return false;
            }
            numbers[place] = digit;
            next++;
            return true;
        }

        /** Reads 0, or up to three digits; one more digit stays, and is a fault, since no order goes on with a digit. */
        private boolean readNumber(int place) {
            if (!readDigit(place, 10)) {
                return false;
            }
            int number = numbers[place];
            for (int digits = 1; digits < 3 && number > 0 && readDigit(place, 10); digits++) {
                number = 10 * number + numbers[place];
            }
            numbers[place] = number;
            return true;
        }
    }

    /** The states before the latest changes, the oldest one first. */
    private static final class History {
        int kept;
        private final Line[] states = new Line[HISTORY];

        History() {
            for (int place = 0; place < HISTORY; place++) {
                states[place] = new Line();
            }
        }

        void keep(Line state) {
            if (kept == HISTORY) {
                dropOldest();
            }
            states[kept].copyFrom(state);
            kept++;
        }

        private void dropOldest() {
            Line oldest = states[0];
            for (int place = 1; place < HISTORY; place++) {
                states[place - 1] = states[place];
            }
            states[HISTORY - 1] = oldest;
            kept--;
        }

        /** Gives the latest state back, and answers how many are left; there has to be one. */
        int giveBack(Line state) {
            kept--;
            state.copyFrom(states[kept]);
            return kept;
        }
    }
}
