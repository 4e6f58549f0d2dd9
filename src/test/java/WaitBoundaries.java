/** Boundaries of delays, waits and meetings. */
final class WaitBoundaries extends Boundaries {
    WaitBoundaries(Due due, Sentences says) {
        super(due, says);
    }

    @Override
    void all() {
        undisturbed();
        delays();
        delayOfTheDay();
        waits();
        reasons();
        blame();
        meetings();
        meetingMinutes();
        noMeetings();
    }

    private void undisturbed() {
        says.terms("The undisturbed time of a shuttle is the sum of the running times of its stretches, and of its stops at the stations"
            + " between.", () -> {
            PassingTrack x = one(3, 4, 0, 20);
            x.running(3, 1);
            due.is("the shortest one", x.ofShuttle(0, 5), 1);
            PassingTrack y = one(0, 7, 0, 20);
            y.shuttle(7, 0, 0, 20, 0);
            for (int stretch = 0; stretch < 7; stretch++) {
                y.running(stretch, 30);
            }
            due.is("the longest one up", y.ofShuttle(0, 5), 7 * 30 + 6 * 20);
            due.is("the longest one down", y.ofShuttle(1, 5), 7 * 30 + 6 * 20);
            PassingTrack z = one(2, 4, 0, 3);
            z.running(1, 30);
            z.running(4, 30);
            due.is("stretches that are not its own do not count", z.ofShuttle(0, 5), 23);
        });
    }

    private void delays() {
        says.terms("Its delay is the minute in which it came to its end, less its earliest minute and its undisturbed time.", () -> {
            PassingTrack x = one(0, 7, 300, 20);
            due.is("undisturbed: ofShuttle(0, 6)", x.ofShuttle(0, 6), 490);
            due.is("undisturbed: ofShuttle(0, 7)", x.ofShuttle(0, 7), 0);
            PassingTrack y = one(0, 1, 0, 0);
            y.shuttle(0, 1, 9, 0, 0);
            due.is("a minute: ofShuttle(1, 7)", y.ofShuttle(1, 7), 1);
            y.late(1, 1);
            due.is("none: ofShuttle(1, 7)", y.ofShuttle(1, 7), 0);
        });
    }

    private void delayOfTheDay() {
        says.terms("The delay of the day is the sum of all delays", () -> {
            PassingTrack x = new PassingTrack();
            due.is("without shuttles", x.day(1), 0);
            x.shuttle(0, 1, 0, 0, 0);
            due.is("of one", x.day(1), 0);
            for (int number = 1; number < 8; number++) {
                x.shuttle(0, 1, 0, 0, 0);
            }
            due.is("of eight behind one another", x.day(1), 10 + 20 + 30 + 40 + 50 + 60 + 70);
        });
        says.terms("there is none if some shuttle is stuck.", () -> {
            PassingTrack x = twoStuck();
            many(x, 2, 0, 1);
            due.is("the delay of one that is not", x.ofShuttle(3, 7), 10);
            due.is("day(1)", x.day(1), NONE);
        });
    }

    private void waits() {
        says.terms("A shuttle waits in a minute if it is ready, but has not left behind step 2 of this minute", () -> {
            PassingTrack x = one(0, 1, 0, 0);
            x.shuttle(0, 1, 4, 0, 0);
            due.is("it is not ready", x.why(1, 3), 0);
            due.is("it is", x.why(1, 4), 2);
            due.is("it still is", x.why(1, 9), 2);
            due.is("it has left", x.why(1, 10), 0);
            due.is("on the stretch", x.why(1, 11), 0);
            due.is("ofShuttle(1, 8)", x.ofShuttle(1, 8), 6);
            due.is("nobody waits who leaves at once", x.ofShuttle(0, 8), 0);
            PassingTrack y = one(0, 2, 0, 20);
            due.is("nobody waits who stops", y.ofShuttle(0, 8), 0);
            due.is("nobody waits at the end", y.why(0, 40), 0);
        });
        says.terms("(a stuck one does so in the last minute, too)", () -> {
            PassingTrack x = twoStuck();
            due.is("why(0, 9)", x.why(0, 9), 0);
            due.is("why(0, 10)", x.why(0, 10), 3);
            due.is("why(0, 11)", x.why(0, 11), 0);
            due.is("ofShuttle(0, 8)", x.ofShuttle(0, 8), 1);
            due.is("ofShuttle(1, 11)", x.ofShuttle(1, 11), 1);
            due.is("day(4)", x.day(4), 2);
            x.shuttle(2, 5, 300, 0, 0);
            due.is("outside, too: why(2, 299)", x.why(2, 299), 0);
            due.is("outside, too: why(2, 300)", x.why(2, 300), 3);
            due.is("day(4)", x.day(4), 291 + 291 + 1);
        });
    }

    private void reasons() {
        says.terms("The reason is 1 if somebody who goes the other way is on the stretch ahead of it then", () -> {
            PassingTrack x = one(0, 1, 0, 0);
            x.shuttle(1, 0, 0, 0, 0);
            due.is("up ahead of down", x.why(1, 0), 1);
            x.prefer(1, 1);
            due.is("down ahead of up", x.why(0, 0), 1);
            PassingTrack y = one(0, 2, 0, 0);
            y.tracks(1, 1);
            y.shuttle(2, 0, 0, 0, 0);
            y.shuttle(0, 2, 1, 0, 0);
            due.is("the only track is promised to 2 in minute 10", y.when(2, 0, 1), 10);
            due.is("there is no track, either", y.why(1, 10), 1);
        });
        says.terms("2 if it is somebody who goes the same way", () -> {
            PassingTrack x = new PassingTrack();
            x.tracks(1, 1);
            many(x, 2, 0, 2);
            due.is("up, and there is no track, either", x.why(1, 0), 2);
            PassingTrack y = new PassingTrack();
            many(y, 2, 7, 6);
            due.is("down", y.why(1, 9), 2);
        });
        says.terms("3 if nobody is (there is no track for it)", () -> {
            PassingTrack x = one(0, 2, 0, 20);
            x.tracks(1, 1);
            x.shuttle(0, 2, 0, 0, 0);
            due.is("one is on the stretch", x.why(1, 9), 2);
            due.is("it has come out of it", x.why(1, 10), 3);
            due.is("a minute ahead of leaving", x.why(1, 29), 3);
            due.is("it has left", x.why(1, 30), 0);
        });
    }

    private void blame() {
        says.terms("For 1 and 2 the one who is on the stretch is to blame for this minute.", () -> {
            PassingTrack x = one(0, 1, 0, 0);
            x.shuttle(1, 0, 9, 0, 0);
            due.is("for 1: ofShuttle(1, 12)", x.ofShuttle(1, 12), 0);
            due.is("a minute: ofShuttle(1, 9)", x.ofShuttle(1, 9), 1);
            PassingTrack y = one(0, 1, 9, 0);
            y.shuttle(0, 1, 0, 0, 0);
            due.is("for 2: ofShuttle(0, 12)", y.ofShuttle(0, 12), 1);
            due.is("a minute: ofShuttle(0, 10)", y.ofShuttle(0, 10), 1);
            PassingTrack others = one(5, 4, 0, 0);
            others.running(0, 30);
            many(others, 2, 0, 1);
            others.shuttle(1, 2, 0, 0, 0);
            due.is("others on other stretches are not: why(2, 0)", others.why(2, 0), 2);
            row("others on other stretches are not: ofShuttle(2, 8 + .)", what -> others.ofShuttle(2, 8 + what), 30, 0, 30, 0, 1);
            PassingTrack z = one(0, 2, 0, 20);
            z.tracks(1, 1);
            z.shuttle(0, 2, 10, 0, 0);
            due.is("for 3 nobody is: ofShuttle(1, 11)", z.ofShuttle(1, 11), 20);
            due.is("for 3 nobody is: ofShuttle(1, 12)", z.ofShuttle(1, 12), NONE);
        });
    }

    private void isMeeting(PassingTrack x, int meeting, int... want) {
        row("meeting(" + meeting + ", .)", what -> x.meeting(meeting, what), want);
    }

    private void meetings() {
        says.terms("Two shuttles that go opposite ways meet in a station", () -> {
            PassingTrack x = one(0, 2, 0, 0);
            x.shuttle(2, 0, 0, 0, 0);
            due.is("opposite ways", x.day(3), 1);
            isMeeting(x, 0, 10, 1, 0, 1);
            PassingTrack y = one(0, 2, 0, 20);
            y.shuttle(0, 2, 0, 20, 0);
            row("both stand at 1: at(., 20)", shuttle -> y.at(shuttle, 20), 2, 2);
            due.is("the same way", y.day(3), 0);
        });
        says.terms("the meeting is in the first such minute.", () -> {
            PassingTrack x = one(0, 2, 0, 20);
            x.shuttle(2, 0, 7, 20, 0);
            due.is("both stand at 1 for long: day(3)", x.day(3), 1);
            isMeeting(x, 0, 17, 1, 0, 1);
        });
    }

    private void meetingMinutes() {
        says.terms("if there is a minute in which, behind step 1 and ahead of step 2, both are on tracks there", () -> {
            PassingTrack x = one(0, 2, 0, 0);
            x.shuttle(2, 0, 0, 0, 0);
            due.is("both come and leave in one minute", x.day(3), 1);
            PassingTrack y = one(0, 2, 0, 5);
            y.shuttle(2, 0, 5, 0, 0);
            due.is("one comes in the minute in which the other one leaves", y.day(3), 1);
            isMeeting(y, 0, 15, 1, 0, 1);
            PassingTrack z = one(0, 2, 0, 5);
            z.running(1, 1);
            z.shuttle(2, 0, 15, 0, 0);
            due.is("the other one has the stretch", z.when(1, 2, 1), 16);
            due.is("one comes behind the minute in which the other one leaves", z.day(3), 0);
        });
        says.terms("both are on tracks there", () -> {
            PassingTrack x = new PassingTrack();
            x.tracks(2, 1);
            x.tracks(3, 2);
            x.tracks(4, 1);
            // 0 and 1 stand at 3 from minute 10 on, and each wants a track that is taken, by 2 at 4 and by 3 at 2.
            x.shuttle(2, 6, 0, 0, 0);
            x.shuttle(4, 0, 0, 0, 0);
            x.shuttle(5, 1, 9, 0, 0);
            x.shuttle(1, 5, 9, 0, 0);
            due.is("day(2)", x.day(2), 15);
            due.is("stuck ones meet, too: day(3)", x.day(3), 1);
            isMeeting(x, 0, 10, 3, 0, 1);
        });
    }

    private void noMeetings() {
        says.terms("both are on tracks there", () -> {
            PassingTrack end = one(0, 2, 0, 20);
            end.shuttle(2, 1, 0, 0, 0);
            row("one is at its end: at(., 15)", shuttle -> end.at(shuttle, 15), 2, 2);
            due.is("one is at its end: day(3)", end.day(3), 0);
            PassingTrack begin = one(0, 2, 0, 20);
            begin.shuttle(1, 0, 20, 0, 0);
            row("one is outside: at(., 15)", shuttle -> begin.at(shuttle, 15), 2, 2);
            due.is("one is outside: day(3)", begin.day(3), 0);
            PassingTrack both = one(0, 1, 0, 0);
            both.shuttle(1, 0, 20, 0, 0);
            due.is("one is outside, one at its end: day(3)", both.day(3), 0);
            due.is("there is none: meeting(0, 0)", both.meeting(0, 0), NO_SUCH);
        });
    }
}
