import java.util.ArrayList;
import java.util.LinkedHashMap;
import java.util.List;
import java.util.Map;
import java.util.function.Consumer;
import java.util.function.Function;
import java.util.function.Supplier;
import java.util.function.ToIntFunction;

/**
 * Errors of all calls: which one comes first, and that they change nothing. Two lines are made alike; a call is made on
 * one of them, and all that can be asked of both later, in several ways, has to be the same.
 */
final class ErrorBoundaries extends Boundaries {
    /** The lines: new, in use, full of all that there can be, and with stuck shuttles. */
    private final Map<String, Supplier<PassingTrack>> lines = new LinkedHashMap<>();
    private final List<Function<PassingTrack, List<Integer>>> looks = List.of(
        ErrorBoundaries::asked, ErrorBoundaries::otherFirst, ErrorBoundaries::undone, ErrorBoundaries::restored,
        ErrorBoundaries::carriedOut, ErrorBoundaries::padFilled);

    ErrorBoundaries(Due due, Sentences says) {
        super(due, says);
        lines.put("new", PassingTrack::new);
        lines.put("used", ErrorBoundaries::used);
        lines.put("full", () -> full("x0;".repeat(26) + "x0"));
        lines.put("full with a fault", () -> full("x0;".repeat(26) + "x9"));
        lines.put("stuck", Boundaries::twoStuck);
    }

    @Override
    void all() {
        firstErrorOfSeveral();
        errorsChangeNothing();
        fullErrorsChangeNothing();
        askingChangesNothing();
        dayOfAllShuttles();
        tryingChangesNothing();
        noneIsNoError();
    }

    private static PassingTrack used() {
        PassingTrack x = new PassingTrack();
        x.running(2, 7);
        x.tracks(4, 1);
        x.shuttle(1, 6, 3, 2, 4);
        x.save(1);
        x.shuttle(6, 0, 290, 0, 9);
        x.first(1);
        x.shuttle(3, 7, 0, 5, 2);
        x.undo();
        Texts.putAll(x, "t3=4;p0=7;x1;");
        return x;
    }

    private static PassingTrack full(String text) {
        PassingTrack x = new PassingTrack();
        for (int number = 0; number < 8; number++) {
            x.shuttle(number % 4, 7 - number % 4, 300 - number, number, 9 - number);
            x.save(number % 2);
        }
        x.first(2);
        x.tracks(3, 1);
        Texts.putAll(x, text);
        return x;
    }

    private static void addLine(PassingTrack x, List<Integer> answers) {
        for (int what = 0; what <= 18; what++) {
            answers.add(x.count(what));
        }
        int shuttles = x.count(0);
        for (int shuttle = 0; shuttle < shuttles; shuttle++) {
            for (int what = 0; what <= 4; what++) {
                answers.add(x.ofShuttle(shuttle, what));
            }
        }
    }

    private static void addDay(PassingTrack x, List<Integer> answers) {
        for (int what = 0; what <= 5; what++) {
            answers.add(x.day(what));
        }
        int shuttles = x.count(0);
        for (int shuttle = 0; shuttle < shuttles; shuttle++) {
            for (int what = 6; what <= 12; what++) {
                answers.add(x.ofShuttle(shuttle, what));
            }
            for (int minute : new int[] {0, 5, 10, 300, 305, 330}) {
                answers.add(x.at(shuttle, minute));
                answers.add(x.why(shuttle, minute));
            }
        }
        answers.add(x.meeting(0, 0));
    }

    private static List<Integer> asked(PassingTrack x) {
        List<Integer> answers = new ArrayList<>();
        addLine(x, answers);
        addDay(x, answers);
        int shuttles = x.count(0);
        for (int shuttle = 0; shuttle < shuttles; shuttle++) {
            for (int station = 0; station < 8; station++) {
                answers.add(x.when(shuttle, station, 0));
                answers.add(x.when(shuttle, station, 1));
            }
        }
        answers.add(x.bestTrack(0));
        answers.add(x.bestOrder(1));
        answers.add(x.fault());
        return answers;
    }

    private static List<Integer> otherFirst(PassingTrack x) {
        List<Integer> answers = new ArrayList<>();
        for (int first : new int[] {0, 2}) {
            answers.add(x.first(first));
            addDay(x, answers);
        }
        return answers;
    }

    private static List<Integer> undone(PassingTrack x) {
        List<Integer> answers = new ArrayList<>();
        for (int change = 0; change < 7; change++) {
            answers.add(x.undo());
            addLine(x, answers);
        }
        return answers;
    }

    private static List<Integer> restored(PassingTrack x) {
        List<Integer> answers = new ArrayList<>();
        for (int slot = 0; slot < 2; slot++) {
            answers.add(x.restore(slot));
            addLine(x, answers);
        }
        return answers;
    }

    private static List<Integer> carriedOut(PassingTrack x) {
        List<Integer> answers = new ArrayList<>();
        Texts.putAll(x, "t5=3");
        answers.add(x.fault());
        answers.add(x.carryOut());
        addLine(x, answers);
        answers.add(x.undo());
        addLine(x, answers);
        return answers;
    }

    private static List<Integer> padFilled(PassingTrack x) {
        List<Integer> answers = new ArrayList<>();
        for (int length = 0; length < 81; length++) {
            answers.add(x.put(';'));
        }
        answers.add(x.fault());
        answers.add(x.wipe());
        answers.add(x.shuttle(0, 1, 0, 0, 0));
        addLine(x, answers);
        return answers;
    }

    /** Makes a call on one of two lines that are alike, and looks at both in all ways. */
    private void changesNothingOn(String line, String call, Consumer<PassingTrack> made) {
        for (Function<PassingTrack, List<Integer>> look : looks) {
            PassingTrack x = lines.get(line).get();
            made.accept(x);
            due.holds(call + " changes nothing, " + line, look.apply(x).equals(look.apply(lines.get(line).get())));
        }
    }

    private void changesNothing(String call, Consumer<PassingTrack> made) {
        for (String line : lines.keySet()) {
            changesNothingOn(line, call, made);
        }
    }

    private void isRefusedOn(String line, String call, ToIntFunction<PassingTrack> made, int error) {
        due.is(call + ", " + line, made.applyAsInt(lines.get(line).get()), error);
        changesNothingOn(line, call, made::applyAsInt);
    }

    private void isRefused(String call, ToIntFunction<PassingTrack> made, int error) {
        for (String line : lines.keySet()) {
            isRefusedOn(line, call, made, error);
        }
    }

    /** Of a call about the last shuttle: on the new line there is none. */
    private void isRefusedOfLast(String call, ToIntFunction<PassingTrack> made, int error) {
        for (String line : lines.keySet()) {
            isRefusedOn(line, call, made, line.equals("new") ? NO_SUCH : error);
        }
    }

    private void firstErrorOfSeveral() {
        says.terms("it names its errors in the order in which they are checked, and the first one that applies is returned.", () -> {
            for (String line : lines.keySet()) {
                PassingTrack x = lines.get(line).get();
                due.is("tracks(8, 5), " + line, x.tracks(8, 5), NO_SUCH);
                due.is("running(7, 31), " + line, x.running(7, 31), NO_SUCH);
                due.is("shuttle(8, 8, 301, 21, 10), " + line, x.shuttle(8, 8, 301, 21, 10), NO_SUCH);
                due.is("shuttle(0, 0, 301, 21, 10), " + line, x.shuttle(0, 0, 301, 21, 10), BAD_VALUE);
                due.is("late(8, 301), " + line, x.late(8, 301), NO_SUCH);
                due.is("prefer(8, 10), " + line, x.prefer(8, 10), NO_SUCH);
                due.is("ofShuttle(8, 13), " + line, x.ofShuttle(8, 13), NO_SUCH);
                due.is("at(8, 10000), " + line, x.at(8, 10000), NO_SUCH);
                due.is("when(8, 8, 2), " + line, x.when(8, 8, 2), NO_SUCH);
                due.is("why(8, 10000), " + line, x.why(8, 10000), NO_SUCH);
                due.is("meeting(64, 4), " + line, x.meeting(64, 4), NO_SUCH);
                due.is("delayIfLate(8, 301), " + line, x.delayIfLate(8, 301), NO_SUCH);
                due.is("delayIfSlow(7, 31), " + line, x.delayIfSlow(7, 31), NO_SUCH);
                due.is("bestOrder(9), " + line, x.bestOrder(9), BAD_VALUE);
                due.is("put(0), " + line, x.put(0), BAD_VALUE);
                due.is("restore(2), " + line, x.restore(2), BAD_VALUE);
            }
        });
    }

    private void errorsChangeNothing() {
        says.terms("A call that returns an error changes nothing.", () -> {
            isRefused("first(3)", x -> x.first(3), BAD_VALUE);
            isRefused("tracks(8, 1)", x -> x.tracks(8, 1), NO_SUCH);
            isRefused("tracks(0, 5)", x -> x.tracks(0, 5), BAD_VALUE);
            isRefused("running(7, 1)", x -> x.running(7, 1), NO_SUCH);
            isRefused("running(0, 31)", x -> x.running(0, 31), BAD_VALUE);
            isRefused("shuttle(0, 8, 0, 0, 0)", x -> x.shuttle(0, 8, 0, 0, 0), NO_SUCH);
            isRefused("shuttle(0, 0, 0, 0, 0)", x -> x.shuttle(0, 0, 0, 0, 0), BAD_VALUE);
            isRefused("shuttle(0, 1, 301, 0, 0)", x -> x.shuttle(0, 1, 301, 0, 0), BAD_VALUE);
            isRefused("shuttle(0, 1, 0, 21, 0)", x -> x.shuttle(0, 1, 0, 21, 0), BAD_VALUE);
            isRefused("shuttle(0, 1, 0, 0, 10)", x -> x.shuttle(0, 1, 0, 0, 10), BAD_VALUE);
            isRefused("late(8, 1)", x -> x.late(8, 1), NO_SUCH);
            isRefusedOfLast("late of the last one by 301", x -> x.late(x.count(0) - 1, 301), BAD_VALUE);
            isRefused("prefer(8, 1)", x -> x.prefer(8, 1), NO_SUCH);
            isRefusedOfLast("prefer of the last one to 10", x -> x.prefer(x.count(0) - 1, 10), BAD_VALUE);
            isRefused("remove of one behind the last one", x -> x.remove(x.count(0)), NO_SUCH);
            isRefused("put(0)", x -> x.put(0), BAD_VALUE);
            isRefused("put(32)", x -> x.put(32), BAD_VALUE);
            isRefused("put of a bit above", x -> x.put(0x610061L), BAD_VALUE);
            isRefused("save(2)", x -> x.save(2), BAD_VALUE);
            isRefused("restore(-1)", x -> x.restore(-1), BAD_VALUE);
        });
    }

    private void fullErrorsChangeNothing() {
        says.terms("A call that returns an error changes nothing.", () -> {
            isRefusedOn("full", "a ninth shuttle", x -> x.shuttle(0, 1, 0, 0, 0), TOO_MANY);
            isRefusedOn("full", "put of one", x -> x.put('a'), TOO_MANY);
            isRefusedOn("full", "put of eight", x -> x.put(Texts.packed("abcdefgh")), TOO_MANY);
            isRefusedOn("full", "bestOrder(0)", x -> x.bestOrder(0), NOT_POSSIBLE);
            isRefusedOn("full", "late(0, 1)", x -> x.late(0, 1), BAD_VALUE);
            isRefusedOn("used", "late(1, 11)", x -> x.late(1, 11), BAD_VALUE);
            isRefusedOn("full with a fault", "carryOut()", PassingTrack::carryOut, BAD_TEXT);
            isRefusedOn("used", "carryOut()", PassingTrack::carryOut, BAD_TEXT);
            isRefusedOn("new", "carryOut()", PassingTrack::carryOut, BAD_TEXT);
            isRefusedOn("new", "undo()", PassingTrack::undo, NOT_POSSIBLE);
            isRefusedOn("new", "restore(0)", x -> x.restore(0), NOT_POSSIBLE);
            isRefusedOn("used", "restore(0)", x -> x.restore(0), NOT_POSSIBLE);
            isRefusedOn("stuck", "restore(1)", x -> x.restore(1), NOT_POSSIBLE);
        });
    }

    private void askingChangesNothing() {
        says.terms("The day is run from the minute 0 on, with all shuttles, whenever something is asked about it; nothing changes by that.",
            () -> {
                for (int number = -1; number <= 19; number++) {
                    int what = number;
                    changesNothing("count(" + what + ")", x -> x.count(what));
                    changesNothing("day(" + what + ")", x -> x.day(what));
                    changesNothing("ofShuttle(0, " + what + ")", x -> x.ofShuttle(0, what));
                    changesNothing("at(0, " + what + ")", x -> x.at(0, what));
                    changesNothing("why(0, " + what + ")", x -> x.why(0, what));
                    changesNothing("when(0, " + what + ", 0)", x -> x.when(0, what, 0));
                    changesNothing("meeting(0, " + what + ")", x -> x.meeting(0, what));
                }
                changesNothing("fault()", PassingTrack::fault);
            });
    }

    /** Four from each side of two stations with a track each: all are stuck. */
    private static void madeStuck(PassingTrack x, int shuttle) {
        x.shuttle(shuttle % 2 == 0 ? 2 : 5, shuttle % 2 == 0 ? 5 : 2, shuttle, shuttle % 3, shuttle);
    }

    private void dayOfAllShuttles() {
        says.terms("with all shuttles, whenever something is asked about it", () -> {
            for (int first = 0; first <= 2; first++) {
                for (int removed = 0; removed < 8; removed++) {
                    PassingTrack x = new PassingTrack();
                    PassingTrack never = new PassingTrack();
                    for (PassingTrack y : new PassingTrack[] {x, never}) {
                        y.tracks(3, 1);
                        y.tracks(4, 1);
                        y.first(first);
                    }
                    for (int shuttle = 0; shuttle < 8; shuttle++) {
                        madeStuck(x, shuttle);
                        if (shuttle != removed) {
                            madeStuck(never, shuttle);
                        }
                    }
                    due.is("all are stuck", x.day(2), 255);
                    due.is("the last one has no track", x.why(7, x.day(0)), 3);
                    x.remove(removed);
                    List<Integer> got = new ArrayList<>();
                    List<Integer> want = new ArrayList<>();
                    addDay(x, got);
                    addDay(never, want);
                    due.holds("without " + removed + ", as if it had never been there", got.equals(want));
                }
            }
        });
    }

    private void tryingChangesNothing() {
        says.promise(16, "Tells the delay of the day if a shuttle started later", () -> {
            changesNothing("delayIfLate(0, 1)", x -> x.delayIfLate(0, 1));
            changesNothing("delayIfLate(0, 301)", x -> x.delayIfLate(0, 301));
        });
        says.promise(17, "Tells the delay of the day if a stretch had another running time", () -> {
            changesNothing("delayIfSlow(0, 30)", x -> x.delayIfSlow(0, 30));
            changesNothing("delayIfSlow(0, 31)", x -> x.delayIfSlow(0, 31));
        });
        says.promise(18, "Finds the station at which one more track would make the delay of the day the least", () -> {
            changesNothing("bestTrack(0)", x -> x.bestTrack(0));
            changesNothing("bestTrack(2)", x -> x.bestTrack(2));
        });
        says.promise(19, "Finds the order of the shuttles with which", () -> {
            changesNothing("bestOrder(0)", x -> x.bestOrder(0));
            changesNothing("bestOrder(1)", x -> x.bestOrder(1));
            changesNothing("bestOrder(9)", x -> x.bestOrder(9));
        });
    }

    private void noneIsNoError() {
        says.terms("NONE (-6) is not an error; it is returned only if no error applies.", () -> {
            PassingTrack x = twoStuck();
            due.is("NONE: ofShuttle(0, 6)", x.ofShuttle(0, 6), NONE);
            due.is("NONE, but there is no such what: ofShuttle(0, 13)", x.ofShuttle(0, 13), BAD_VALUE);
            due.is("NONE: day(1)", x.day(1), NONE);
            due.is("NONE, but there is no such what: day(6)", x.day(6), BAD_VALUE);
            due.is("NONE: when(0, 7, 0)", x.when(0, 7, 0), NONE);
            due.is("NONE, but there is no such station: when(0, 8, 0)", x.when(0, 8, 0), NO_SUCH);
            due.is("NONE, but there is no such what: when(0, 7, 2)", x.when(0, 7, 2), BAD_VALUE);
            due.is("NONE: delayIfLate(0, 1)", x.delayIfLate(0, 1), NONE);
            due.is("NONE, but there is no such shuttle: delayIfLate(2, 1)", x.delayIfLate(2, 1), NO_SUCH);
            due.is("NONE, but out of range: delayIfLate(0, 0)", x.delayIfLate(0, 0), BAD_VALUE);
            due.is("NONE: delayIfSlow(0, 1)", x.delayIfSlow(0, 1), NONE);
            due.is("NONE, but there is no such stretch: delayIfSlow(7, 1)", x.delayIfSlow(7, 1), NO_SUCH);
            due.is("NONE, but out of range: delayIfSlow(0, 31)", x.delayIfSlow(0, 31), BAD_VALUE);
            due.is("NONE: bestOrder(2)", x.bestOrder(2), NONE);
            due.is("NONE, but there is no such place: bestOrder(3)", x.bestOrder(3), BAD_VALUE);
            many(x, 4, 0, 1);
            due.is("NONE, but there are too many: bestOrder(0)", x.bestOrder(0), NOT_POSSIBLE);
            for (int station = 0; station < 8; station++) {
                x.tracks(station, 4);
            }
            due.is("NONE: bestTrack(0)", x.bestTrack(0), NONE);
            due.is("NONE, but there is no such what: bestTrack(2)", x.bestTrack(2), BAD_VALUE);
        });
    }
}
