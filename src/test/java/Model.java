import java.util.ArrayList;
import java.util.Arrays;
import java.util.List;
import java.util.regex.Matcher;
import java.util.regex.Pattern;

/**
 * The document once more, as literally as it goes: a day is run minute by minute, and all that happens
 * is written down. It is slow, and shares nothing with the class.
 */
final class Model {
    static final int NO_SUCH = -1, BAD_VALUE = -2, BAD_TEXT = -3, TOO_MANY = -4, NOT_POSSIBLE = -5, NONE = -6;

    private static final Pattern TEXT;

    static {
        String number = "(0|[1-9][0-9]{0,2})";
        String order = "(s[0-7]>[0-7]@" + number + "(\\+" + number + ")?(\\^[0-9])?"
            + "|l[0-7]\\+" + number + "|t[0-7]=" + number + "|r[0-6]=" + number + "|p[0-7]=[0-9]|x[0-7])";
        TEXT = Pattern.compile(order + "(;" + order + ")*");
    }

    private static final class Shuttle {
        int begin, end, earliest, stop, priority;
        // In the day:
        char place;
        int station, stretch, since;
        boolean ready;
        int[] comes, leaves;
        List<Integer> positions, reasons, blamed;

        Shuttle copy() {
            Shuttle other = new Shuttle();
            other.begin = begin;
            other.end = end;
            other.earliest = earliest;
            other.stop = stop;
            other.priority = priority;
            return other;
        }

        int step() {
            return end > begin ? 1 : -1;
        }

        int ahead() {
            return step() > 0 ? station : station - 1;
        }
    }

    private static final class State {
        int first = 0;
        int[] tracks = {2, 2, 2, 2, 2, 2, 2, 2};
        int[] running = {10, 10, 10, 10, 10, 10, 10};
        List<Shuttle> shuttles = new ArrayList<>();

        State copy() {
            State other = new State();
            other.first = first;
            other.tracks = tracks.clone();
            other.running = running.clone();
            for (Shuttle shuttle : shuttles) {
                other.shuttles.add(shuttle.copy());
            }
            return other;
        }

        boolean has(int shuttle) {
            return shuttle >= 0 && shuttle < shuttles.size();
        }

        int undisturbed(Shuttle s) {
            int minutes = 0;
            for (int at = s.begin; at != s.end; at += s.step()) {
                minutes += running[s.step() > 0 ? at : at - 1];
                if (at != s.begin) {
                    minutes += s.stop;
                }
            }
            return minutes;
        }

        int wayLeft(Shuttle s) {
            int minutes = 0;
            for (int at = s.station; at != s.end; at += s.step()) {
                minutes += running[s.step() > 0 ? at : at - 1];
                if (at + s.step() != s.end) {
                    minutes += s.stop;
                }
            }
            return minutes;
        }
    }

    private static final class Day {
        final State state;
        int last;
        List<int[]> meetings = new ArrayList<>();

        Day(State state) {
            this.state = state;
            for (Shuttle s : state.shuttles) {
                s.place = 'o';
                s.station = s.begin;
                s.comes = filled();
                s.leaves = filled();
                s.positions = new ArrayList<>();
                s.reasons = new ArrayList<>();
                s.blamed = new ArrayList<>();
            }
            int minute = 0;
            while (!runMinute(minute)) {
                minute++;
            }
            last = minute;
        }

        private static int[] filled() {
            int[] minutes = new int[8];
            Arrays.fill(minutes, NONE);
            return minutes;
        }

        /** Answers whether the day ends behind the minute. */
        private boolean runMinute(int minute) {
            for (Shuttle s : state.shuttles) {
                if (s.place == 'r' && minute - s.since == state.running[s.stretch]) {
                    s.station += s.step();
                    s.since = minute;
                    s.place = s.station == s.end ? 'e' : 't';
                    s.comes[s.station] = minute;
                }
            }
            noteMeetings(minute);
            for (Shuttle s : state.shuttles) {
                s.ready = s.place == 'o' && minute >= s.earliest || s.place == 't' && minute - s.since >= s.stop;
            }
            boolean left = false;
            for (Shuttle s = foremost(); s != null; s = foremost()) {
                left = true;
                s.stretch = s.ahead();
                s.place = 'r';
                s.since = minute;
                s.ready = false;
                s.leaves[s.station] = minute;
            }
            note();
            boolean allAtEnd = true;
            boolean allReady = true;
            boolean riding = false;
            for (Shuttle s : state.shuttles) {
                allAtEnd &= s.place == 'e';
                allReady &= s.place == 'e' || s.ready;
                riding |= s.place == 'r';
            }
            return allAtEnd || !riding && allReady && !left;
        }

        private Shuttle on(int stretch) {
            for (Shuttle s : state.shuttles) {
                if (s.place == 'r' && s.stretch == stretch) {
                    return s;
                }
            }
            return null;
        }

        private boolean canLeave(Shuttle s) {
            if (!s.ready || on(s.ahead()) != null) {
                return false;
            }
            int next = s.station + s.step();
            if (next == s.end) {
                return true;
            }
            int used = 0;
            for (Shuttle other : state.shuttles) {
                if (other.place == 't' && other.station == next) {
                    used++;
                }
                if (other.place == 'r' && other.station + other.step() == next && other.end != next) {
                    used++;
                }
            }
            return used < state.tracks[next];
        }

        private Shuttle foremost() {
            List<Shuttle> able = new ArrayList<>();
            for (Shuttle s : state.shuttles) {
                if (canLeave(s)) {
                    able.add(s);
                }
            }
            // The sort is stable, so that of equal ones the lowest number stays the first one.
            able.sort((a, b) -> {
                int order = 0;
                if (state.first == 1) {
                    order = Integer.compare(readySince(a), readySince(b));
                } else if (state.first == 2) {
                    order = Integer.compare(state.wayLeft(b), state.wayLeft(a));
                }
                return order != 0 ? order : Integer.compare(b.priority, a.priority);
            });
            return able.isEmpty() ? null : able.get(0);
        }

        private int readySince(Shuttle s) {
            return s.place == 'o' ? s.earliest : s.since + s.stop;
        }

        private void noteMeetings(int minute) {
            for (int station = 0; station < 8; station++) {
                for (int a = 0; a < state.shuttles.size(); a++) {
                    for (int b = a + 1; b < state.shuttles.size(); b++) {
                        Shuttle low = state.shuttles.get(a);
                        Shuttle high = state.shuttles.get(b);
                        boolean there = low.place == 't' && high.place == 't'
                            && low.station == station && high.station == station;
                        if (there && low.step() != high.step() && !hasMeeting(station, a, b)) {
                            meetings.add(new int[] {minute, station, a, b});
                        }
                    }
                }
            }
        }

        private boolean hasMeeting(int station, int a, int b) {
            for (int[] meeting : meetings) {
                if (meeting[1] == station && meeting[2] == a && meeting[3] == b) {
                    return true;
                }
            }
            return false;
        }

        private void note() {
            for (Shuttle s : state.shuttles) {
                s.positions.add(s.place == 'r' ? 2 * s.stretch + 1 : 2 * s.station);
                int reason = 0;
                int blamed = NONE;
                if (s.ready) {
                    Shuttle holder = on(s.ahead());
                    reason = holder == null ? 3 : holder.step() == s.step() ? 2 : 1;
                    blamed = holder == null ? NONE : state.shuttles.indexOf(holder);
                }
                s.reasons.add(reason);
                s.blamed.add(blamed);
            }
        }

        int delayOf(Shuttle s) {
            return s.place == 'e' ? s.comes[s.end] - s.earliest - state.undisturbed(s) : NONE;
        }

        int delay() {
            int sum = 0;
            for (Shuttle s : state.shuttles) {
                if (s.place != 'e') {
                    return NONE;
                }
                sum += delayOf(s);
            }
            return sum;
        }

        int waits(Shuttle s, int reason) {
            int minutes = 0;
            for (int r : s.reasons) {
                if (reason == 0 ? r != 0 : r == reason) {
                    minutes++;
                }
            }
            return minutes;
        }

        int mostBlamed(Shuttle s) {
            int[] minutes = new int[8];
            for (int b : s.blamed) {
                if (b >= 0) {
                    minutes[b]++;
                }
            }
            int most = 0;
            for (int b = 1; b < 8; b++) {
                if (minutes[b] > minutes[most]) {
                    most = b;
                }
            }
            return minutes[most] == 0 ? NONE : most;
        }
    }

    private State now = new State();
    private final List<State> history = new ArrayList<>();
    private final State[] slots = new State[2];
    private String pad = "";

    private int changed(State before, int answer) {
        if (answer >= 0) {
            history.add(before);
            if (history.size() > 6) {
                history.remove(0);
            }
        }
        return answer;
    }

    int first(int first) {
        if (first < 0 || first > 2) {
            return BAD_VALUE;
        }
        State before = now.copy();
        int previous = now.first;
        now.first = first;
        return changed(before, previous);
    }

    int tracks(int station, int tracks) {
        return changed(now.copy(), doTracks(now, station, tracks));
    }

    private static int doTracks(State state, int station, int tracks) {
        if (station < 0 || station > 7) {
            return NO_SUCH;
        }
        if (tracks < 1 || tracks > 4) {
            return BAD_VALUE;
        }
        int previous = state.tracks[station];
        state.tracks[station] = tracks;
        return previous;
    }

    int running(int stretch, int minutes) {
        return changed(now.copy(), doRunning(now, stretch, minutes));
    }

    private static int doRunning(State state, int stretch, int minutes) {
        if (stretch < 0 || stretch > 6) {
            return NO_SUCH;
        }
        if (minutes < 1 || minutes > 30) {
            return BAD_VALUE;
        }
        int previous = state.running[stretch];
        state.running[stretch] = minutes;
        return previous;
    }

    int shuttle(int begin, int end, int earliest, int stop, int priority) {
        return changed(now.copy(), doShuttle(now, begin, end, earliest, stop, priority));
    }

    private static int doShuttle(State state, int begin, int end, int earliest, int stop, int priority) {
        if (begin < 0 || begin > 7 || end < 0 || end > 7) {
            return NO_SUCH;
        }
        if (begin == end || earliest < 0 || earliest > 300 || stop < 0 || stop > 20 || priority < 0 || priority > 9) {
            return BAD_VALUE;
        }
        if (state.shuttles.size() == 8) {
            return TOO_MANY;
        }
        Shuttle s = new Shuttle();
        s.begin = begin;
        s.end = end;
        s.earliest = earliest;
        s.stop = stop;
        s.priority = priority;
        state.shuttles.add(s);
        return state.shuttles.size() - 1;
    }

    int late(int shuttle, int minutes) {
        return changed(now.copy(), doLate(now, shuttle, minutes));
    }

    private static int doLate(State state, int shuttle, int minutes) {
        if (!state.has(shuttle)) {
            return NO_SUCH;
        }
        Shuttle s = state.shuttles.get(shuttle);
        if (minutes < 1 || minutes > 300 || s.earliest + minutes > 300) {
            return BAD_VALUE;
        }
        s.earliest += minutes;
        return s.earliest;
    }

    int prefer(int shuttle, int priority) {
        return changed(now.copy(), doPrefer(now, shuttle, priority));
    }

    private static int doPrefer(State state, int shuttle, int priority) {
        if (!state.has(shuttle)) {
            return NO_SUCH;
        }
        if (priority < 0 || priority > 9) {
            return BAD_VALUE;
        }
        int previous = state.shuttles.get(shuttle).priority;
        state.shuttles.get(shuttle).priority = priority;
        return previous;
    }

    int remove(int shuttle) {
        return changed(now.copy(), doRemove(now, shuttle));
    }

    private static int doRemove(State state, int shuttle) {
        if (!state.has(shuttle)) {
            return NO_SUCH;
        }
        state.shuttles.remove(shuttle);
        return state.shuttles.size();
    }

    int ofShuttle(int shuttle, int what) {
        if (!now.has(shuttle)) {
            return NO_SUCH;
        }
        if (what < 0 || what > 12) {
            return BAD_VALUE;
        }
        Day day = new Day(now);
        Shuttle s = now.shuttles.get(shuttle);
        int[] answers = {s.begin, s.end, s.earliest, s.stop, s.priority, now.undisturbed(s), s.comes[s.end],
            day.delayOf(s), day.waits(s, 0), day.waits(s, 1), day.waits(s, 2), day.waits(s, 3), day.mostBlamed(s)};
        return answers[what];
    }

    int count(int what) {
        if (what < 0 || what > 18) {
            return BAD_VALUE;
        }
        int[] some = {now.shuttles.size(), now.first, pad.length(), history.size()};
        return what < 4 ? some[what] : what < 12 ? now.tracks[what - 4] : now.running[what - 12];
    }

    int day(int what) {
        if (what < 0 || what > 5) {
            return BAD_VALUE;
        }
        Day day = new Day(now);
        int stuck = 0;
        int waits = 0;
        int greatest = NONE;
        for (int i = 0; i < now.shuttles.size(); i++) {
            Shuttle s = now.shuttles.get(i);
            stuck |= s.place == 'e' ? 0 : 1 << i;
            waits += day.waits(s, 0);
            greatest = Math.max(greatest, day.delayOf(s));
        }
        return new int[] {day.last, day.delay(), stuck, day.meetings.size(), waits, greatest}[what];
    }

    int at(int shuttle, int minute) {
        if (!now.has(shuttle)) {
            return NO_SUCH;
        }
        if (minute < 0 || minute > 9999) {
            return BAD_VALUE;
        }
        Day day = new Day(now);
        return now.shuttles.get(shuttle).positions.get(Math.min(minute, day.last));
    }

    int when(int shuttle, int station, int what) {
        if (!now.has(shuttle) || station < 0 || station > 7) {
            return NO_SUCH;
        }
        if (what < 0 || what > 1) {
            return BAD_VALUE;
        }
        new Day(now);
        Shuttle s = now.shuttles.get(shuttle);
        return what == 0 ? s.comes[station] : s.leaves[station];
    }

    int why(int shuttle, int minute) {
        if (!now.has(shuttle)) {
            return NO_SUCH;
        }
        if (minute < 0 || minute > 9999) {
            return BAD_VALUE;
        }
        Day day = new Day(now);
        return minute > day.last ? 0 : now.shuttles.get(shuttle).reasons.get(minute);
    }

    int meeting(int meeting, int what) {
        Day day = new Day(now);
        if (meeting < 0 || meeting >= day.meetings.size()) {
            return NO_SUCH;
        }
        if (what < 0 || what > 3) {
            return BAD_VALUE;
        }
        return day.meetings.get(meeting)[what];
    }

    int delayIfLate(int shuttle, int minutes) {
        State tried = now.copy();
        int answer = doLate(tried, shuttle, minutes);
        return answer < 0 ? answer : new Day(tried).delay();
    }

    int delayIfSlow(int stretch, int minutes) {
        State tried = now.copy();
        int answer = doRunning(tried, stretch, minutes);
        return answer < 0 ? answer : new Day(tried).delay();
    }

    int bestTrack(int what) {
        if (what < 0 || what > 1) {
            return BAD_VALUE;
        }
        int[] best = {NONE, NONE};
        for (int station = 7; station >= 0; station--) {
            if (now.tracks[station] < 4) {
                State tried = now.copy();
                tried.tracks[station]++;
                int delay = new Day(tried).delay();
                if (delay != NONE && (best[1] == NONE || delay <= best[1])) {
                    best = new int[] {station, delay};
                }
            }
        }
        return best[what];
    }

    int bestOrder(int what) {
        int number = now.shuttles.size();
        if (what < 0 || what > number) {
            return BAD_VALUE;
        }
        if (number > 5) {
            return NOT_POSSIBLE;
        }
        List<int[]> results = new ArrayList<>();
        tryOrders(new ArrayList<>(), number, results);
        int[] best = null;
        for (int[] result : results) {
            if (result[0] != NONE && (best == null || Arrays.compare(result, best) < 0)) {
                best = result;
            }
        }
        return best == null ? NONE : best[what];
    }

    private void tryOrders(List<Integer> order, int number, List<int[]> results) {
        if (order.size() == number) {
            State tried = now.copy();
            tried.first = 0;
            int[] result = new int[number + 1];
            for (int place = 0; place < number; place++) {
                tried.shuttles.get(order.get(place)).priority = 100 - place;
                result[place + 1] = order.get(place);
            }
            result[0] = new Day(tried).delay();
            results.add(result);
            return;
        }
        for (int shuttle = number - 1; shuttle >= 0; shuttle--) {
            if (!order.contains(shuttle)) {
                order.add(shuttle);
                tryOrders(order, number, results);
                order.remove(order.size() - 1);
            }
        }
    }

    int put(long characters) {
        String text = "";
        boolean over = false;
        for (int place = 0; place < 8; place++) {
            int code = (int) (characters >>> 8 * place) & 255;
            if (code == 0) {
                over = true;
            } else if (over || code < 33 || code > 126) {
                return BAD_VALUE;
            } else {
                text = (char) code + text;
            }
        }
        if (text.isEmpty()) {
            return BAD_VALUE;
        }
        if (pad.length() + text.length() > 80) {
            return TOO_MANY;
        }
        pad += text;
        return pad.length();
    }

    int wipe() {
        int length = pad.length();
        pad = "";
        return length;
    }

    int fault() {
        if (TEXT.matcher(pad).matches()) {
            return NONE;
        }
        for (int length = 1; length <= pad.length(); length++) {
            Matcher matcher = TEXT.matcher(pad.substring(0, length));
            if (!matcher.matches() && !matcher.hitEnd()) {
                return length - 1;
            }
        }
        return pad.length();
    }

    int carryOut() {
        if (fault() != NONE) {
            return BAD_TEXT;
        }
        State before = now.copy();
        int done = 0;
        for (String order : pad.split(";")) {
            if (carryOut(order) < 0) {
                break;
            }
            done++;
        }
        pad = "";
        return changed(before, done);
    }

    private int carryOut(String order) {
        String[] n = order.substring(1).split("[>@+^=]");
        int one = Integer.parseInt(n[0]);
        int two = n.length > 1 ? Integer.parseInt(n[1]) : 0;
        switch (order.charAt(0)) {
            case 's':
                int earliest = Integer.parseInt(n[2]);
                int stop = order.contains("+") ? Integer.parseInt(n[3]) : 0;
                int priority = order.contains("^") ? Integer.parseInt(n[n.length - 1]) : 0;
                return doShuttle(now, one, two, earliest, stop, priority);
            case 'l':
                return doLate(now, one, two);
            case 't':
                return doTracks(now, one, two);
            case 'r':
                return doRunning(now, one, two);
            case 'p':
                return doPrefer(now, one, two);
            default:
                return doRemove(now, one);
        }
    }

    int undo() {
        if (history.isEmpty()) {
            return NOT_POSSIBLE;
        }
        now = history.remove(history.size() - 1);
        return history.size();
    }

    int save(int slot) {
        if (slot < 0 || slot > 1) {
            return BAD_VALUE;
        }
        slots[slot] = now.copy();
        return now.shuttles.size();
    }

    int restore(int slot) {
        if (slot < 0 || slot > 1) {
            return BAD_VALUE;
        }
        if (slots[slot] == null) {
            return NOT_POSSIBLE;
        }
        State before = now.copy();
        now = slots[slot].copy();
        return changed(before, now.shuttles.size());
    }
}
