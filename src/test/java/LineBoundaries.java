/** Boundaries of the line, of its shuttles, and of the calls that change them: promises 1 to 8. */
final class LineBoundaries extends Boundaries {
    LineBoundaries(Due due, Sentences says) {
        super(due, says);
    }

    @Override
    void all() {
        calls();
        constants();
        numbers();
        line();
        shuttles();
        newObject();
        first();
        tracks();
        running();
        shuttle();
        shuttleErrors();
        late();
        prefer();
        remove();
    }

    private void calls() {
        says.what("An object is used for at most 512 calls after it has been made", () -> {
            PassingTrack x = new PassingTrack();
            for (int call = 1; call < 512; call++) {
                x.tracks(7, 1 + call % 4);
            }
            due.is("the 512th call", x.tracks(7, 1), 1 + 511 % 4);
        });
    }

    private void constants() {
        says.terms("`NO_SUCH = -1, BAD_VALUE = -2, BAD_TEXT = -3, TOO_MANY = -4, NOT_POSSIBLE = -5, NONE = -6`", () -> {
            int[] constants = {PassingTrack.NO_SUCH, PassingTrack.BAD_VALUE, PassingTrack.BAD_TEXT, PassingTrack.TOO_MANY,
                PassingTrack.NOT_POSSIBLE, PassingTrack.NONE};
            row("the constant", which -> constants[which], -1, -2, -3, -4, -5, -6);
        });
    }

    private void numbers() {
        says.terms("Everything is numbered from 0.", () -> {
            PassingTrack x = one(0, 2, 0, 0);
            x.shuttle(2, 0, 0, 0, 0);
            due.is("stations", x.tracks(0, 2), 2);
            due.is("stretches", x.running(0, 10), 10);
            due.is("shuttles", x.ofShuttle(0, 1), 2);
            due.is("meetings", x.meeting(0, 0), 10);
            due.is("slots", x.save(0), 2);
            due.is("minutes", x.at(0, 0), 1);
            due.is("characters", x.fault(), 0);
        });
    }

    private void line() {
        says.terms("The line has 8 stations, 0 to 7, in a row", () -> {
            range("tracks(., 1)", station -> new PassingTrack().tracks(station, 1), 0, 7, NO_SUCH);
            range("shuttle(., 3, 0, 0, 0)", station -> new PassingTrack().shuttle(station, 3, 0, 0, 0), 0, 7, NO_SUCH);
            range("shuttle(3, ., 0, 0, 0)", station -> new PassingTrack().shuttle(3, station, 0, 0, 0), 0, 7, NO_SUCH);
            range("when(0, ., 0)", station -> one(3, 4, 0, 0).when(0, station, 0), 0, 7, NO_SUCH);
        });
        says.terms("and 7 stretches, 0 to 6", () -> {
            range("running(., 1)", stretch -> new PassingTrack().running(stretch, 1), 0, 6, NO_SUCH);
            range("delayIfSlow(., 1)", stretch -> new PassingTrack().delayIfSlow(stretch, 1), 0, 6, NO_SUCH);
        });
        says.terms("the stretch s lies between the stations s and s + 1", () -> {
            for (int stretch = 0; stretch < 7; stretch++) {
                PassingTrack x = one(stretch, stretch + 1, 0, 0);
                x.shuttle(stretch + 1, stretch, 100, 0, 0);
                x.running(stretch, 20 + stretch);
                due.is("up on " + stretch, x.ofShuttle(0, 5), 20 + stretch);
                due.is("down on " + stretch, x.ofShuttle(1, 5), 20 + stretch);
                due.is("up at " + stretch, x.at(0, 0), 2 * stretch + 1);
                due.is("down at " + stretch, x.at(1, 100), 2 * stretch + 1);
            }
        });
        says.terms("A station has a number of tracks (1 to 4; 2 at first).", () -> {
            for (int station = 0; station < 8; station++) {
                int which = station;
                due.is("count at first", new PassingTrack().count(4 + station), 2);
                range("tracks(" + station + ", .)", tracks -> new PassingTrack().tracks(which, tracks), 1, 4, BAD_VALUE);
            }
        });
        says.terms("A stretch has a running time (1 to 30; 10 at first).", () -> {
            for (int stretch = 0; stretch < 7; stretch++) {
                int which = stretch;
                due.is("count at first", new PassingTrack().count(12 + stretch), 10);
                range("running(" + stretch + ", .)", time -> new PassingTrack().running(which, time), 1, 30, BAD_VALUE);
            }
        });
    }

    /** Eight shuttles, each unlike all others in all that it has. */
    private static PassingTrack eight() {
        PassingTrack x = new PassingTrack();
        for (int number = 0; number < 8; number++) {
            x.shuttle(number, 7 - number, 10 * number, number, number + 1);
        }
        return x;
    }

    private void isOneOfEight(PassingTrack x, int shuttle, int made) {
        madeWith(x, shuttle, made, 7 - made, 10 * made, made, made + 1);
    }

    private void shuttles() {
        says.terms("There are up to 8 shuttles, numbered in the order in which they were made", () -> {
            PassingTrack x = new PassingTrack();
            row("shuttle(0, 1, ., 0, 0)", earliest -> x.shuttle(0, 1, earliest, 0, 0), 0, 1, 2, 3, 4, 5, 6, 7, TOO_MANY);
            due.is("count(0)", x.count(0), 8);
            row("ofShuttle(., 2)", shuttle -> x.ofShuttle(shuttle, 2), 0, 1, 2, 3, 4, 5, 6, 7, NO_SUCH);
            due.is("the one ahead of the first one", x.ofShuttle(-1, 2), NO_SUCH);
        });
        says.terms("(when one is removed, those behind it move up)", () -> {
            for (int removed = 0; removed < 8; removed++) {
                PassingTrack x = eight();
                due.is("remove(" + removed + ")", x.remove(removed), 7);
                for (int shuttle = 0; shuttle < 7; shuttle++) {
                    isOneOfEight(x, shuttle, shuttle < removed ? shuttle : shuttle + 1);
                }
                due.is("there is no last one", x.ofShuttle(7, 0), NO_SUCH);
                due.is("one is made in its place", x.shuttle(3, 5, 300, 20, 9), 7);
                madeWith(x, 7, 3, 5, 300, 20, 9);
                due.is("and all places are taken", x.shuttle(3, 5, 300, 20, 9), TOO_MANY);
            }
        });
        says.terms("A shuttle has a station where it begins, another one where it ends", () -> {
            for (int station = 0; station < 8; station++) {
                due.is("the same one, " + station, new PassingTrack().shuttle(station, station, 0, 0, 0), BAD_VALUE);
            }
            madeWith(one(0, 7, 0, 0), 0, 0, 7);
            madeWith(one(7, 0, 0, 0), 0, 7, 0);
        });
        says.terms("a stop (0 to 20) at each station between both", () -> {
            due.is("none between", one(3, 4, 0, 20).ofShuttle(0, 5), 10);
            due.is("one between", one(3, 5, 0, 20).ofShuttle(0, 5), 40);
            due.is("six between", one(7, 0, 0, 20).ofShuttle(0, 5), 190);
            due.is("six between without a stop", one(7, 0, 0, 0).ofShuttle(0, 5), 70);
        });
        says.terms("It goes from station to station, always towards its end.", () -> {
            row("up: when(0, ., 0)", station -> one(0, 7, 0, 0).when(0, station, 0), NONE, 10, 20, 30, 40, 50, 60, 70);
            row("down: when(0, ., 0)", station -> one(7, 0, 0, 0).when(0, station, 0), 70, 60, 50, 40, 30, 20, 10, NONE);
            row("one stretch: when(0, ., 0)", station -> one(4, 3, 0, 0).when(0, station, 0),
                NONE, NONE, NONE, 10, NONE, NONE, NONE, NONE);
        });
    }

    private void newObject() {
        says.promise(1, "Creates a line without shuttles, with FIRST as 0.", () -> {
            PassingTrack x = new PassingTrack();
            row("count(.)", x::count, 0, 0, 0, 0, 2, 2, 2, 2, 2, 2, 2, 2, 10, 10, 10, 10, 10, 10, 10);
            due.is("there is no shuttle 0", x.remove(0), NO_SUCH);
            due.is("there is nothing to undo", x.undo(), NOT_POSSIBLE);
            due.is("nothing is saved in 0", x.restore(0), NOT_POSSIBLE);
            due.is("nothing is saved in 1", x.restore(1), NOT_POSSIBLE);
            due.is("FIRST was 0", x.first(0), 0);
        });
    }

    private void first() {
        says.promise(2, "- `first`: 0 to 2", () ->
            range("first(.)", first -> new PassingTrack().first(first), 0, 2, BAD_VALUE));
        says.promise(2, "Returns the previous value; BAD_VALUE if first is out of range.", () -> {
            PassingTrack x = new PassingTrack();
            due.is("first(2)", x.first(2), 0);
            due.is("first(3)", x.first(3), BAD_VALUE);
            due.is("first(1)", x.first(1), 2);
            due.is("first(-1)", x.first(-1), BAD_VALUE);
            due.is("first(1)", x.first(1), 1);
            due.is("first(0)", x.first(0), 1);
        });
    }

    private void tracks() {
        says.promise(3, "Changes the tracks of a station.", () -> {
            for (int station = 0; station < 8; station++) {
                PassingTrack x = new PassingTrack();
                x.tracks(station, 4);
                for (int other = 0; other < 8; other++) {
                    due.is("tracks of " + other, x.count(4 + other), other == station ? 4 : 2);
                }
            }
        });
        says.promise(3, "- `tracks`: 1 to 4", () -> {
            range("tracks(0, .)", tracks -> new PassingTrack().tracks(0, tracks), 1, 4, BAD_VALUE);
            range("tracks(7, .)", tracks -> new PassingTrack().tracks(7, tracks), 1, 4, BAD_VALUE);
        });
        says.promise(3, "Returns the previous number; NO_SUCH if there is no such station; BAD_VALUE if tracks is out of range.",
            () -> {
                PassingTrack x = new PassingTrack();
                due.is("tracks(7, 1)", x.tracks(7, 1), 2);
                due.is("tracks(7, 4)", x.tracks(7, 4), 1);
                due.is("tracks(7, 4)", x.tracks(7, 4), 4);
                refuses("tracks(., 0)", station -> x.tracks(station, 0), NO_SUCH, -1, 8);
                refuses("tracks(., 5)", station -> x.tracks(station, 5), NO_SUCH, -1, 8);
                due.is("tracks(7, 5)", x.tracks(7, 5), BAD_VALUE);
                due.is("tracks(7, 2)", x.tracks(7, 2), 4);
            });
    }

    private void running() {
        says.promise(4, "Changes the running time of a stretch.", () -> {
            for (int stretch = 0; stretch < 7; stretch++) {
                PassingTrack x = new PassingTrack();
                x.running(stretch, 30);
                for (int other = 0; other < 7; other++) {
                    due.is("running time of " + other, x.count(12 + other), other == stretch ? 30 : 10);
                }
            }
        });
        says.promise(4, "- `minutes`: 1 to 30", () -> {
            range("running(0, .)", minutes -> new PassingTrack().running(0, minutes), 1, 30, BAD_VALUE);
            range("running(6, .)", minutes -> new PassingTrack().running(6, minutes), 1, 30, BAD_VALUE);
        });
        says.promise(4, "Returns the previous time; NO_SUCH if there is no such stretch; BAD_VALUE if minutes is out of range.",
            () -> {
                PassingTrack x = new PassingTrack();
                due.is("running(6, 1)", x.running(6, 1), 10);
                due.is("running(6, 30)", x.running(6, 30), 1);
                due.is("running(6, 30)", x.running(6, 30), 30);
                refuses("running(., 0)", stretch -> x.running(stretch, 0), NO_SUCH, -1, 7);
                refuses("running(., 31)", stretch -> x.running(stretch, 31), NO_SUCH, -1, 7);
                due.is("running(6, 31)", x.running(6, 31), BAD_VALUE);
                due.is("running(6, 2)", x.running(6, 2), 30);
            });
    }

    private void shuttle() {
        says.promise(5, "- `begin`: a station", () ->
            range("shuttle(., 3, 0, 0, 0)", begin -> new PassingTrack().shuttle(begin, 3, 0, 0, 0), 0, 7, NO_SUCH));
        says.promise(5, "- `end`: another station", () -> {
            range("shuttle(3, ., 0, 0, 0)", end -> new PassingTrack().shuttle(3, end, 0, 0, 0), 0, 7, NO_SUCH);
            refuses("shuttle(3, ., 0, 0, 0)", end -> new PassingTrack().shuttle(3, end, 0, 0, 0), BAD_VALUE, 3);
            takes("shuttle(3, ., 0, 0, 0)", end -> new PassingTrack().shuttle(3, end, 0, 0, 0), 2, 4);
        });
        says.promise(5, "- `earliest`: 0 to 300", () -> {
            range("shuttle(0, 1, ., 0, 0)", minute -> new PassingTrack().shuttle(0, 1, minute, 0, 0), 0, 300, BAD_VALUE);
            due.is("starts in minute 0", one(0, 1, 0, 0).when(0, 0, 1), 0);
            due.is("starts in minute 300", one(0, 1, 300, 0).when(0, 0, 1), 300);
        });
        says.promise(5, "- `stop`: 0 to 20", () -> {
            range("shuttle(0, 1, 0, ., 0)", stop -> new PassingTrack().shuttle(0, 1, 0, stop, 0), 0, 20, BAD_VALUE);
            due.is("goes on at once", one(0, 2, 0, 0).when(0, 1, 1), 10);
            due.is("goes on after 20 minutes", one(0, 2, 0, 20).when(0, 1, 1), 30);
        });
        says.promise(5, "- `priority`: 0 to 9", () -> {
            range("shuttle(0, 1, 0, 0, .)", rank -> new PassingTrack().shuttle(0, 1, 0, 0, rank), 0, 9, BAD_VALUE);
            PassingTrack x = one(0, 1, 0, 0);
            x.shuttle(0, 1, 0, 0, 9);
            due.is("9 goes ahead of 0", x.when(1, 0, 1), 0);
        });
    }

    private void shuttleErrors() {
        says.promise(5, "Returns its number; NO_SUCH if there is no such station; BAD_VALUE if both stations are the same, or another"
            + " argument is out of range; TOO_MANY if there are 8 shuttles.", () -> {
            for (int number = 0; number <= 8; number += 8) {
                PassingTrack x = new PassingTrack();
                many(x, number, 0, 1);
                due.is("no such stations, the same ones", x.shuttle(8, 8, 0, 0, 0), NO_SUCH);
                due.is("no such stations, the same ones", x.shuttle(-1, -1, 0, 0, 0), NO_SUCH);
                due.is("all that is wrong", x.shuttle(0, 8, 301, 21, 10), NO_SUCH);
                due.is("all that is wrong", x.shuttle(-1, 0, -1, -1, -1), NO_SUCH);
                due.is("the same stations", x.shuttle(7, 7, 0, 0, 0), BAD_VALUE);
                due.is("earliest", x.shuttle(0, 1, 301, 0, 0), BAD_VALUE);
                due.is("stop", x.shuttle(0, 1, 0, 21, 0), BAD_VALUE);
                due.is("priority", x.shuttle(0, 1, 0, 0, 10), BAD_VALUE);
                due.is("nothing wrong", x.shuttle(0, 1, 0, 0, 0), number == 8 ? TOO_MANY : 0);
            }
            PassingTrack seven = new PassingTrack();
            many(seven, 7, 0, 1);
            due.is("the eighth one", seven.shuttle(0, 1, 0, 0, 0), 7);
        });
    }

    private void late() {
        says.promise(6, "- `minutes`: 1 to 300: its earliest minute is so much greater", () -> {
            range("late(0, .)", minutes -> one(0, 1, 0, 0).late(0, minutes), 1, 300, BAD_VALUE);
            for (int minutes = 1; minutes <= 300; minutes += 299) {
                PassingTrack x = one(0, 1, 0, 0);
                x.late(0, minutes);
                due.is("earliest minute", x.ofShuttle(0, 2), minutes);
                due.is("it starts then", x.when(0, 0, 1), minutes);
            }
        });
        says.promise(6, "or the earliest minute would be above 300.", () -> {
            range("late(0, .) of 1", minutes -> one(0, 1, 1, 0).late(0, minutes), 1, 299, BAD_VALUE);
            range("late(0, .) of 299", minutes -> one(0, 1, 299, 0).late(0, minutes), 1, 1, BAD_VALUE);
            refuses("late(0, .) of 300", minutes -> one(0, 1, 300, 0).late(0, minutes), BAD_VALUE, 0, 1, 300);
        });
        says.promise(6, "Returns its earliest minute then; NO_SUCH if there is no such shuttle; BAD_VALUE if minutes is out of range",
            () -> {
                PassingTrack x = one(0, 1, 0, 0);
                due.is("late(0, 1)", x.late(0, 1), 1);
                due.is("late(0, 299)", x.late(0, 299), 300);
                refuses("late(., 0)", shuttle -> x.late(shuttle, 0), NO_SUCH, Integer.MIN_VALUE, -1, 1, 8, Integer.MAX_VALUE);
                refuses("late(., 301)", shuttle -> x.late(shuttle, 301), NO_SUCH, -1, 1);
                refuses("late(., 1)", shuttle -> x.late(shuttle, 1), NO_SUCH, -1, 1);
                due.is("late(0, 301)", x.late(0, 301), BAD_VALUE);
            });
    }

    private void prefer() {
        says.promise(7, "- `priority`: 0 to 9", () ->
            range("prefer(0, .)", rank -> one(0, 1, 0, 0).prefer(0, rank), 0, 9, BAD_VALUE));
        says.promise(7, "Returns the previous one; NO_SUCH if there is no such shuttle; BAD_VALUE if priority is out of range.", () -> {
            PassingTrack x = eight();
            due.is("the first one: prefer(0, 9)", x.prefer(0, 9), 1);
            due.is("the last one: prefer(7, 0)", x.prefer(7, 0), 8);
            due.is("prefer(7, 9)", x.prefer(7, 9), 0);
            due.is("prefer(0, 9)", x.prefer(0, 9), 9);
            refuses("prefer(., 10)", shuttle -> x.prefer(shuttle, 10), NO_SUCH, Integer.MIN_VALUE, -1, 8, Integer.MAX_VALUE);
            refuses("prefer(., -1)", shuttle -> x.prefer(shuttle, -1), NO_SUCH, -1, 8);
            refuses("prefer(., 0)", shuttle -> x.prefer(shuttle, 0), NO_SUCH, -1, 8);
            due.is("without shuttles", new PassingTrack().prefer(0, 10), NO_SUCH);
        });
    }

    private void remove() {
        says.promise(8, "Returns how many there are then; NO_SUCH if there is no such shuttle.", () -> {
            PassingTrack x = eight();
            refuses("remove(.)", x::remove, NO_SUCH, Integer.MIN_VALUE, -1, 8, Integer.MAX_VALUE);
            for (int left = 7; left >= 0; left--) {
                due.is("there is none behind the last one", x.remove(left + 1), NO_SUCH);
                due.is("the last one", x.remove(left), left);
            }
            due.is("none is left", x.remove(0), NO_SUCH);
            PassingTrack y = eight();
            for (int left = 7; left >= 0; left--) {
                isOneOfEight(y, 0, 7 - left);
                due.is("the first one", y.remove(0), left);
            }
            due.is("none is left", y.remove(0), NO_SUCH);
            due.is("the next one is the first one", y.shuttle(0, 1, 0, 0, 0), 0);
        });
    }
}
