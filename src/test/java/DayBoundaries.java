/** Boundaries of the day: when shuttles come, are ready, can leave and leave, who goes first, and when it ends. */
final class DayBoundaries extends Boundaries {
    DayBoundaries(Due due, Sentences says) {
        super(due, says);
    }

    @Override
    void all() {
        begin();
        comesIn();
        ready();
        stretchIsFree();
        trackIsFree();
        promisedTrack();
        leavesInTurn();
        leaves();
        ends();
        stuck();
        stuckIsNotYet();
        firstByPriority();
        firstByReadiness();
        firstByWay();
        firstOfSeveral();
    }

    private void begin() {
        says.terms("The day is run from the minute 0 on", () -> {
            PassingTrack x = one(0, 1, 0, 0);
            due.is("at(0, 0)", x.at(0, 0), 1);
            due.is("when(0, 0, 1)", x.when(0, 0, 1), 0);
        });
        says.terms("At first all shuttles are outside, at the stations where they begin.", () -> {
            PassingTrack x = new PassingTrack();
            x.tracks(3, 1);
            for (int number = 0; number < 7; number++) {
                x.shuttle(3, 4, 300, 0, 0);
            }
            x.shuttle(0, 7, 0, 0, 0);
            row("at(., 0)", shuttle -> x.at(shuttle, 0), 6, 6, 6, 6, 6, 6, 6, 1);
            row("at(., 299)", shuttle -> x.at(shuttle, 299), 6, 6, 6, 6, 6, 6, 6, 14);
            due.is("outside they take no tracks: one comes by", x.when(7, 3, 0), 30);
            due.is("and goes on", x.when(7, 3, 1), 30);
        });
    }

    private void comesIn() {
        says.terms("left the station behind it as many minutes ago as the running time is, comes into the next station.", () -> {
            for (int minutes = 1; minutes <= 30; minutes += 29) {
                PassingTrack x = one(0, 2, 5, 0);
                x.running(0, minutes);
                due.is("a minute ahead of it", x.at(0, 5 + minutes - 1), 1);
                due.is("when(0, 1, 0)", x.when(0, 1, 0), 5 + minutes);
                due.is("in that minute it goes on", x.at(0, 5 + minutes), 3);
            }
        });
        says.terms("If it ends there, it is at its end for good", () -> {
            PassingTrack x = new PassingTrack();
            x.running(0, 1);
            x.tracks(1, 1);
            many(x, 2, 0, 1);
            x.shuttle(0, 2, 2, 0, 0);
            due.is("at(0, 9999)", x.at(0, 9999), 2);
            due.is("at(1, 9999)", x.at(1, 9999), 2);
            due.is("when(0, 1, 1)", x.when(0, 1, 1), NONE);
            due.is("it takes no track there: another one comes", x.when(2, 0, 1), 2);
        });
        says.terms("otherwise it takes the track that is promised to it.", () -> {
            PassingTrack x = new PassingTrack();
            for (int number = 0; number < 3; number++) {
                x.shuttle(0, 2, 0, 20, 0);
            }
            // The first one stands at station 1 from 10 to 30, the second one from 20 on: one track each.
            row("when(., 0, 1)", shuttle -> x.when(shuttle, 0, 1), 0, 10, 30);
        });
    }

    private void ready() {
        says.terms("A shuttle is ready if it is outside, and the minute is at least its earliest one", () -> {
            PassingTrack x = one(0, 1, 7, 0);
            due.is("at(0, 6)", x.at(0, 6), 0);
            due.is("at(0, 7)", x.at(0, 7), 1);
            PassingTrack y = one(0, 1, 0, 0);
            y.shuttle(0, 1, 7, 0, 9);
            due.is("why(1, 6)", y.why(1, 6), 0);
            due.is("why(1, 7)", y.why(1, 7), 2);
            due.is("also later", y.when(1, 0, 1), 10);
        });
        says.terms("or if it is on a track, and came there as many minutes ago as its stop is, or more.", () -> {
            due.is("a stop of 0", one(0, 2, 0, 0).when(0, 1, 1), 10);
            due.is("a stop of 1", one(0, 2, 0, 1).when(0, 1, 1), 11);
            due.is("a stop of 20", one(0, 2, 0, 20).when(0, 1, 1), 30);
            due.is("a stop of 20", one(0, 2, 0, 20).at(0, 29), 2);
            PassingTrack x = one(0, 2, 0, 3);
            x.shuttle(2, 1, 9, 0, 0);
            due.is("why(0, 12)", x.why(0, 12), 0);
            due.is("why(0, 13)", x.why(0, 13), 1);
            due.is("more", x.when(0, 1, 1), 19);
        });
    }

    private void stretchIsFree() {
        says.terms("A ready shuttle can leave if nobody is on the stretch ahead of it", () -> {
            PassingTrack same = new PassingTrack();
            many(same, 2, 0, 1);
            due.is("behind one that goes the same way", same.when(1, 0, 1), 10);
            PassingTrack other = one(0, 1, 0, 0);
            other.shuttle(1, 0, 0, 0, 0);
            due.is("behind one that goes the other way", other.when(1, 1, 1), 10);
            PassingTrack late = one(0, 1, 0, 0);
            late.shuttle(1, 0, 9, 0, 0);
            late.shuttle(1, 0, 10, 0, 9);
            due.is("in the minute in which it comes out", late.when(2, 1, 1), 10);
            PassingTrack next = one(0, 1, 0, 0);
            next.shuttle(1, 2, 0, 0, 0);
            due.is("the next stretch is another one", next.when(1, 1, 1), 0);
        });
    }

    private void trackIsFree() {
        says.terms("and it ends at the next station, or the tracks of that station that are taken or promised are fewer than its tracks.",
            () -> {
                for (int tracks = 1; tracks <= 4; tracks++) {
                    PassingTrack x = new PassingTrack();
                    x.running(0, 1);
                    x.tracks(1, tracks);
                    for (int number = 0; number <= tracks; number++) {
                        x.shuttle(0, 2, 0, 20, 0);
                    }
                    x.shuttle(0, 1, tracks, 0, 0);
                    // One leaves in each minute; the first one goes on in minute 21.
                    due.is("the last one with a track", x.when(tracks - 1, 0, 1), tracks - 1);
                    due.is("one that ends there", x.when(tracks + 1, 0, 1), tracks);
                    due.is("the first one without a track", x.when(tracks, 0, 1), 21);
                    due.is("its reason", x.why(tracks, 20), 3);
                }
            });
        says.terms("the tracks of that station that are taken or promised", () -> {
            PassingTrack x = new PassingTrack();
            x.shuttle(0, 2, 0, 20, 0);
            x.shuttle(0, 2, 0, 20, 0);
            x.shuttle(2, 0, 15, 0, 0);
            // In minute 15 a track at 1 is taken by 0, the other one is promised to 1.
            due.is("why(2, 14)", x.why(2, 14), 0);
            due.is("why(2, 15)", x.why(2, 15), 3);
            due.is("why(2, 29)", x.why(2, 29), 3);
            due.is("why(2, 30)", x.why(2, 30), 1);
            due.is("when(2, 2, 1)", x.when(2, 2, 1), 50);
        });
    }

    private void promisedTrack() {
        says.terms("if it does not end at the next station, a track there is promised to it.", () -> {
            for (int end = 1; end <= 2; end++) {
                PassingTrack x = one(0, end, 0, 0);
                x.tracks(1, 1);
                x.shuttle(2, 0, 0, 0, 0);
                due.is("one that ends at " + end + " is on its way to 1", x.when(1, 2, 1), end == 1 ? 0 : 20);
            }
        });
        says.terms("the track that it had, if any, is not taken any more", () -> {
            PassingTrack x = new PassingTrack();
            x.tracks(1, 1);
            x.shuttle(0, 2, 0, 5, 0);
            x.shuttle(0, 2, 1, 0, 0);
            due.is("in the same minute another one leaves to it", x.when(1, 0, 1), 15);
            PassingTrack y = new PassingTrack();
            y.tracks(3, 1);
            y.shuttle(2, 5, 0, 20, 0);
            y.shuttle(3, 4, 12, 0, 0);
            y.shuttle(2, 5, 15, 0, 0);
            due.is("one that was outside", y.when(1, 3, 1), 12);
            due.is("had no track", y.when(2, 2, 1), 30);
        });
    }

    private void leavesInTurn() {
        says.terms("As long as some ready shuttle can leave, the one of those that can leave that goes first leaves", () -> {
            PassingTrack all = new PassingTrack();
            for (int stretch = 0; stretch < 7; stretch++) {
                all.shuttle(stretch, stretch + 1, 0, 0, 0);
            }
            all.shuttle(0, 1, 0, 0, 0);
            row("one for each stretch leaves in minute 0", shuttle -> all.at(shuttle, 0), 1, 3, 5, 7, 9, 11, 13, 0);
            goesAhead(0, 25, 15);
            goesAhead(7, 15, 25);
        });
    }

    /** In minute 15 the first one gives the only track at 1 up: only if it leaves first, the second one can leave ahead of the third. */
    private void goesAhead(int priority, int second, int third) {
        PassingTrack x = new PassingTrack();
        x.tracks(1, 1);
        x.shuttle(0, 2, 0, 5, priority);
        x.shuttle(0, 2, 1, 0, 9);
        x.shuttle(1, 0, 15, 0, 5);
        due.is("the first one with " + priority, x.when(0, 1, 1), 15);
        due.is("the second one behind " + priority, x.when(1, 0, 1), second);
        due.is("the third one behind " + priority, x.when(2, 1, 1), third);
    }

    private void leaves() {
        says.terms("from now on it is on the stretch", () -> {
            PassingTrack x = one(6, 7, 4, 0);
            due.is("a minute ahead of it", x.at(0, 3), 12);
            due.is("in the minute in which it leaves", x.at(0, 4), 13);
            due.is("in the last minute there", x.at(0, 13), 13);
            due.is("behind it", x.at(0, 14), 14);
        });
        says.terms("Then the minute increases by 1.", () -> {
            PassingTrack x = new PassingTrack();
            for (int stretch = 0; stretch < 7; stretch++) {
                x.running(stretch, 1);
            }
            x.shuttle(0, 7, 0, 0, 0);
            for (int minute = 0; minute < 7; minute++) {
                due.is("in minute " + minute, x.at(0, minute), 2 * minute + 1);
            }
            due.is("the last one", x.day(0), 7);
        });
    }

    private void ends() {
        says.terms("The day ends behind the minute in which the last shuttle comes to its end", () -> {
            PassingTrack x = one(0, 1, 300, 0);
            x.running(0, 30);
            x.shuttle(6, 7, 0, 20, 0);
            due.is("day(0)", x.day(0), 330);
            due.is("day(2)", x.day(2), 0);
            PassingTrack shortest = one(0, 1, 0, 20);
            shortest.running(0, 1);
            due.is("the shortest one", shortest.day(0), 1);
        });
        says.terms("(without shuttles, behind the minute 0)", () -> {
            PassingTrack x = new PassingTrack();
            due.is("day(0)", x.day(0), 0);
            x.shuttle(0, 1, 300, 0, 0);
            x.remove(0);
            due.is("day(0) without one again", x.day(0), 0);
        });
    }

    private void stuck() {
        says.terms("nobody is on a stretch, all shuttles that are not at their ends are ready, and none could leave: then those are stuck.",
            () -> {
                PassingTrack x = twoStuck();
                due.is("day(0)", x.day(0), 10);
                due.is("day(2)", x.day(2), 3);
                due.is("at(0, 9999)", x.at(0, 9999), 6);
                due.is("at(1, 9999)", x.at(1, 9999), 8);
                x.tracks(3, 2);
                due.is("with one more track: day(2)", x.day(2), 0);
                PassingTrack y = twoStuck();
                y.shuttle(0, 1, 0, 0, 0);
                due.is("in the minute in which the last one comes to its end: day(0)", y.day(0), 10);
                due.is("day(2)", y.day(2), 3);
            });
    }

    private void stuckIsNotYet() {
        says.terms("or behind a minute in which nobody is on a stretch", () -> {
            PassingTrack x = twoStuck();
            x.shuttle(0, 1, 9, 0, 0);
            due.is("one still comes to its end: day(0)", x.day(0), 19);
            due.is("day(2)", x.day(2), 3);
        });
        says.terms("all shuttles that are not at their ends are ready", () -> {
            PassingTrack stops = twoStuck();
            stops.shuttle(5, 7, 0, 20, 0);
            due.is("one that stops goes on: day(0)", stops.day(0), 40);
            due.is("day(2)", stops.day(2), 3);
            PassingTrack late = twoStuck();
            late.shuttle(0, 1, 300, 0, 0);
            due.is("one starts in minute 300: day(0)", late.day(0), 310);
            due.is("day(2)", late.day(2), 3);
            PassingTrack never = twoStuck();
            never.shuttle(2, 5, 300, 0, 0);
            due.is("one that cannot start becomes ready in minute 300: day(0)", never.day(0), 300);
            due.is("day(2)", never.day(2), 7);
            PassingTrack slow = new PassingTrack();
            slow.tracks(3, 1);
            slow.tracks(4, 1);
            slow.shuttle(2, 5, 0, 20, 0);
            slow.shuttle(5, 2, 0, 0, 0);
            due.is("the stop is over in minute 30: day(0)", slow.day(0), 30);
            due.is("day(2)", slow.day(2), 3);
        });
    }

    private void firstByPriority() {
        says.terms("0 the one with the greatest priority", () -> {
            for (int greater = 1; greater <= 9; greater++) {
                PassingTrack x = new PassingTrack();
                x.shuttle(0, 1, 0, 0, greater - 1);
                x.shuttle(0, 1, 0, 0, greater);
                due.is(greater + " goes ahead of one less", x.when(1, 0, 1), 0);
            }
            PassingTrack x = waiting(0);
            due.is("not the one that is ready first", x.when(1, 2, 1), 60);
            due.is("but the one with 9", x.when(3, 2, 1), 30);
            PassingTrack y = new PassingTrack();
            y.first(1);
            y.shuttle(0, 1, 0, 0, 4);
            y.shuttle(0, 1, 0, 0, 5);
            due.is("with FIRST as 1", y.when(1, 0, 1), 0);
            y.first(0);
            y.prefer(0, 6);
            due.is("with FIRST as 0 again", y.when(0, 0, 1), 0);
        });
    }

    /** In minute 30 the stretch 2 gets free for 1, 2 and 3, which are ready from 10, 12 and 11 on; 3 has 9, 2 the longest way. */
    private static PassingTrack waiting(int first) {
        PassingTrack x = new PassingTrack();
        x.first(first);
        x.running(2, 30);
        x.shuttle(2, 3, 0, 0, 0);
        x.shuttle(2, 3, 10, 0, 5);
        x.shuttle(3, 0, 12, 1, 5);
        x.shuttle(2, 3, 11, 0, 9);
        return x;
    }

    private void firstByReadiness() {
        says.terms("1 the one that became ready in the earliest minute", () -> {
            PassingTrack x = waiting(1);
            due.is("ready in minute 10", x.when(1, 2, 1), 30);
            due.is("ready in minute 11", x.when(3, 2, 1), 60);
            due.is("ready in minute 12", x.when(2, 3, 1), 90);
            for (int earliest = 29; earliest <= 31; earliest++) {
                PassingTrack y = new PassingTrack();
                y.first(1);
                y.running(1, 30);
                // 0 comes to 1 in minute 10, and is ready in minute 30; 2 keeps the stretch 1 until 50.
                y.shuttle(0, 3, 0, 20, 5);
                y.shuttle(1, 2, earliest, 0, 4);
                y.shuttle(2, 1, 20, 0, 0);
                due.is("one on a track behind its stop, another one from " + earliest, y.when(0, 1, 1), earliest < 30 ? 80 : 50);
            }
        });
    }

    private void firstByWay() {
        says.terms("2 the one with the longest way left (the running times of the stretches ahead of it, and its stops at stations that it"
            + " has still to come to, but its end)", () -> {
            PassingTrack x = waiting(2);
            due.is("the longest way", x.when(2, 3, 1), 30);
            due.is("of equal ones the priority", x.when(3, 2, 1), 60);
            due.is("the other one", x.when(1, 2, 1), 90);
            // In minute 24 both 0, which stands at 1, and 1 want the stretch 1; each has two stretches of 10 minutes left.
            for (int stop = 4; stop <= 6; stop++) {
                PassingTrack y = new PassingTrack();
                y.first(2);
                y.shuttle(0, 3, 0, 5, 5);
                y.shuttle(1, 3, 16, stop, 4);
                y.shuttle(2, 1, 14, 0, 0);
                due.is("stops of 5 and " + stop + " still to come", y.when(0, 1, 1), stop > 5 ? 34 : 24);
            }
            PassingTrack z = new PassingTrack();
            z.first(2);
            z.shuttle(0, 1, 0, 20, 4);
            z.shuttle(0, 1, 0, 0, 5);
            due.is("its end has no stop", z.when(1, 0, 1), 0);
            z.running(1, 1);
            z.shuttle(0, 2, 0, 0, 0);
            due.is("one minute more", z.when(2, 0, 1), 0);
        });
    }

    private void firstOfSeveral() {
        says.terms("of several always the one with the greatest priority, of these the one with the lowest number.", () -> {
            for (int first = 0; first <= 2; first++) {
                PassingTrack x = new PassingTrack();
                x.first(first);
                x.shuttle(0, 1, 0, 0, 3);
                x.shuttle(0, 1, 0, 0, 4);
                x.shuttle(0, 1, 0, 0, 3);
                x.shuttle(0, 1, 0, 0, 4);
                row("FIRST " + first + ": when(., 0, 1)", shuttle -> x.when(shuttle, 0, 1), 20, 0, 30, 10);
            }
        });
    }
}
