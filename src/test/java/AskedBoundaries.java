/** Boundaries of what is asked about shuttles, the line and the day: promises 9 to 15. */
final class AskedBoundaries extends Boundaries {
    AskedBoundaries(Due due, Sentences says) {
        super(due, says);
    }

    @Override
    void all() {
        ofShuttle();
        ofShuttleStuck();
        mostBlamed();
        count();
        countFull();
        day();
        stuckSet();
        numbersOfTheDay();
        at();
        when();
        why();
        meeting();
        orderOfMeetings();
    }

    /** 2 waits for 0 on the stretch, for the track of 0, and for 1 that comes against it. */
    private static PassingTrack allReasons() {
        PassingTrack x = new PassingTrack();
        x.tracks(1, 1);
        x.shuttle(0, 2, 0, 20, 5);
        x.shuttle(2, 1, 40, 0, 9);
        x.shuttle(0, 3, 4, 1, 2);
        return x;
    }

    private void ofShuttle() {
        says.promise(9, "- `what`: 0 where it begins, 1 where it ends, 2 its earliest minute, 3 its stop, 4 its priority, 5 its undisturbed"
            + " time, 6 the minute in which it comes to its end, 7 its delay", () -> {
            PassingTrack x = allReasons();
            range("ofShuttle(2, .)", what -> x.ofShuttle(2, what), 0, 12, BAD_VALUE);
            row("ofShuttle(2, .)", what -> x.ofShuttle(2, what), 0, 3, 4, 1, 2, 32, 71, 35, 35, 9, 6, 20, 1, BAD_VALUE);
        });
        says.promise(9, "8 how many minutes it waits, 9 to 11 how many of them for the reasons 1 to 3", () -> {
            PassingTrack x = allReasons();
            due.is("all: ofShuttle(2, 8)", x.ofShuttle(2, 8), 20 + 6 + 9);
            due.is("reason 1: ofShuttle(2, 9)", x.ofShuttle(2, 9), 9);
            due.is("reason 2: ofShuttle(2, 10)", x.ofShuttle(2, 10), 6);
            due.is("reason 3: ofShuttle(2, 11)", x.ofShuttle(2, 11), 20);
            row("one that does not wait: ofShuttle(1, 8 + .)", what -> x.ofShuttle(1, 8 + what), 0, 0, 0, 0, NONE);
        });
        says.promise(9, "Returns the number; NO_SUCH if there is no such shuttle; BAD_VALUE if what is out of range.", () -> {
            PassingTrack x = one(0, 1, 0, 0);
            refuses("ofShuttle(., 0)", shuttle -> x.ofShuttle(shuttle, 0), NO_SUCH, Integer.MIN_VALUE, -1, 1, 8, Integer.MAX_VALUE);
            refuses("ofShuttle(., -1)", shuttle -> x.ofShuttle(shuttle, -1), NO_SUCH, -1, 1);
            refuses("ofShuttle(., 13)", shuttle -> x.ofShuttle(shuttle, 13), NO_SUCH, -1, 1);
            refuses("ofShuttle(0, .)", what -> x.ofShuttle(0, what), BAD_VALUE, -1, 13);
        });
    }

    private void ofShuttleStuck() {
        says.promise(9, "(6, 7: NONE if it is stuck)", () -> {
            PassingTrack x = twoStuck();
            x.shuttle(0, 1, 0, 0, 0);
            row("ofShuttle(0, 5 + .)", what -> x.ofShuttle(0, 5 + what), 30, NONE, NONE, 1, 0, 0, 1, NONE);
            row("ofShuttle(1, 5 + .)", what -> x.ofShuttle(1, 5 + what), 30, NONE, NONE, 1, 0, 0, 1, NONE);
            row("one that is not: ofShuttle(2, 5 + .)", what -> x.ofShuttle(2, 5 + what), 10, 10, 0, 0, 0, 0, 0, NONE);
        });
    }

    private void mostBlamed() {
        says.promise(9, "12 the shuttle that is to blame for the most of them, of several the lowest one (NONE if nobody is)", () -> {
            for (int waits = 0; waits < 3; waits++) {
                PassingTrack x = new PassingTrack();
                for (int number = 0; number < 3; number++) {
                    x.shuttle(0, 1, 0, 0, number == waits ? 0 : 9 - number);
                }
                // The lower one of both others goes first, for 10 minutes, then the other one, for 10.
                int lower = waits == 0 ? 1 : 0;
                int other = waits == 2 ? 1 : 2;
                due.is("of both the lowest one, for " + waits, x.ofShuttle(waits, 12), lower);
                x.late(waits, 1);
                due.is("9 minutes and 10, for " + waits, x.ofShuttle(waits, 12), other);
                x.prefer(lower, 1);
                due.is("10 minutes and 9, for " + waits, x.ofShuttle(waits, 12), lower);
            }
            due.is("nobody is", one(0, 1, 0, 0).ofShuttle(0, 12), NONE);
            PassingTrack x = one(0, 2, 0, 20);
            x.tracks(1, 1);
            x.shuttle(0, 2, 9, 0, 0);
            due.is("a minute of 21: ofShuttle(1, 8)", x.ofShuttle(1, 8), 21);
            due.is("a minute of 21: ofShuttle(1, 12)", x.ofShuttle(1, 12), 0);
            x.late(1, 1);
            due.is("none of 20: ofShuttle(1, 8)", x.ofShuttle(1, 8), 20);
            due.is("none of 20: ofShuttle(1, 12)", x.ofShuttle(1, 12), NONE);
        });
    }

    private void count() {
        says.promise(10, "- `what`: 0 shuttles, 1 FIRST, 2 the length of the pad, 3 how many changes can be undone, 4 to 11 the tracks of the"
            + " stations, 12 to 18 the running times of the stretches", () -> {
            PassingTrack x = new PassingTrack();
            for (int stretch = 0; stretch < 7; stretch++) {
                x.running(stretch, 21 + stretch);
            }
            for (int station = 0; station < 8; station++) {
                x.tracks(station, 1 + station % 4);
            }
            x.shuttle(0, 1, 0, 0, 0);
            x.first(2);
            x.undo();
            x.first(1);
            x.undo();
            x.undo();
            x.first(2);
            Texts.putAll(x, "abcdefghi");
            row("count(.)", x::count, 0, 2, 9, 5, 1, 2, 3, 4, 1, 2, 3, 4, 21, 22, 23, 24, 25, 26, 27, BAD_VALUE);
        });
        says.promise(10, "Returns the number; BAD_VALUE if what is out of range.", () -> {
            PassingTrack x = new PassingTrack();
            range("count(.)", x::count, 0, 18, BAD_VALUE);
        });
    }

    private void countFull() {
        says.promise(10, "0 shuttles", () -> {
            PassingTrack x = new PassingTrack();
            for (int number = 0; number <= 9; number++) {
                due.is("count(0)", x.count(0), Math.min(number, 8));
                x.shuttle(0, 1, 0, 0, 0);
            }
        });
        says.promise(10, "2 the length of the pad", () -> {
            PassingTrack x = new PassingTrack();
            for (int length = 0; length <= 81; length++) {
                due.is("count(2)", x.count(2), Math.min(length, 80));
                x.put('a');
            }
        });
        says.promise(10, "3 how many changes can be undone", () -> {
            PassingTrack x = new PassingTrack();
            for (int changes = 0; changes <= 8; changes++) {
                due.is("count(3)", x.count(3), Math.min(changes, 6));
                x.first(1);
            }
        });
    }

    private void day() {
        says.promise(11, "Returns the number; BAD_VALUE if what is out of range.", () -> {
            range("without shuttles: day(.)", what -> new PassingTrack().day(what), 0, 5, BAD_VALUE);
            range("day(.)", what -> one(0, 1, 0, 0).day(what), 0, 5, BAD_VALUE);
            range("stuck: day(.)", what -> twoStuck().day(what), 0, 5, BAD_VALUE);
        });
        says.promise(11, "- `what`: 0 its last minute, 1 its delay (NONE), 2 the shuttles that are stuck, as a set, 3 meetings, 4 all minutes"
            + " that shuttles wait", () -> {
            PassingTrack none = new PassingTrack();
            row("without shuttles: day(.)", none::day, 0, 0, 0, 0, 0, NONE);
            PassingTrack three = allReasons();
            row("day(.)", three::day, 71, 35, 0, 0, 35, 35);
            PassingTrack pair = onePair();
            row("two that meet: day(.)", pair::day, 20, 0, 0, 1, 0, 0);
            PassingTrack stuck = twoStuck();
            row("stuck: day(.)", stuck::day, 10, NONE, 3, 0, 2, NONE);
        });
    }

    private void stuckSet() {
        says.terms("Sets of shuttles are bit masks.", () -> {
            PassingTrack all = new PassingTrack();
            all.tracks(3, 1);
            all.tracks(4, 1);
            many(all, 4, 2, 5);
            many(all, 4, 5, 2);
            due.is("all eight: day(2)", all.day(2), 255);
            due.is("all eight: day(5)", all.day(5), NONE);
            PassingTrack last = new PassingTrack();
            last.tracks(3, 1);
            last.tracks(4, 1);
            many(last, 6, 0, 1);
            last.shuttle(2, 5, 0, 0, 0);
            last.shuttle(5, 2, 0, 0, 0);
            due.is("the last two: day(2)", last.day(2), 64 + 128);
            due.is("the first two: day(2)", twoStuck().day(2), 1 + 2);
            due.is("nobody: day(2)", one(0, 1, 0, 0).day(2), 0);
        });
    }

    private void numbersOfTheDay() {
        says.promise(11, "3 meetings", () -> {
            PassingTrack x = new PassingTrack();
            for (int station = 0; station < 8; station++) {
                x.tracks(station, 4);
            }
            many(x, 4, 0, 7);
            due.is("all go the same way: day(3)", x.day(3), 0);
            many(x, 4, 7, 0);
            due.is("each of four meets each of four: day(3)", x.day(3), 16);
            due.holds("the last one has a minute", x.meeting(15, 0) > 0);
            due.is("there is none behind it", x.meeting(16, 0), NO_SUCH);
        });
        says.promise(11, "5 the greatest delay of a shuttle that comes to its end (NONE if none does)", () -> {
            PassingTrack x = twoStuck();
            due.is("none does", x.day(5), NONE);
            x.shuttle(0, 1, 0, 0, 0);
            due.is("one without a delay", x.day(5), 0);
            x.shuttle(0, 1, 9, 0, 0);
            due.is("two, with 0 and 1", x.day(5), 1);
            x.late(3, 1);
            due.is("two, with 0 and 0", x.day(5), 0);
            x.remove(3);
            x.shuttle(0, 1, 0, 0, 9);
            due.is("two, with 10 and 0", x.day(5), 10);
            for (int number = 0; number < 8; number++) {
                PassingTrack eight = new PassingTrack();
                many(eight, 8, 0, 1);
                for (int other = 0; other < 8; other++) {
                    eight.prefer(other, other == number ? 0 : 1);
                }
                due.is("the greatest delay is that of " + number, eight.ofShuttle(number, 7), 70);
                due.is("the greatest delay is that of " + number, eight.day(5), 70);
            }
        });
    }

    private void at() {
        says.promise(12, "- `minute`: 0 to 9999", () -> {
            range("at(0, .)", minute -> one(0, 1, 0, 0).at(0, minute), 0, 9999, BAD_VALUE);
            range("stuck: at(0, .)", minute -> twoStuck().at(0, minute), 0, 9999, BAD_VALUE);
        });
        says.promise(12, "(behind the last minute of the day as in that one)", () -> {
            PassingTrack x = one(0, 1, 0, 0);
            x.shuttle(5, 3, 290, 20, 0);
            due.is("the last minute", x.day(0), 330);
            for (int minute : new int[] {330, 331, 9999}) {
                due.is("one at its end in minute " + minute, x.at(0, minute), 2);
                due.is("the last one in minute " + minute, x.at(1, minute), 6);
            }
            PassingTrack stuck = twoStuck();
            for (int minute : new int[] {10, 11, 9999}) {
                due.is("a stuck one in minute " + minute, stuck.at(0, minute), 6);
                due.is("the other one in minute " + minute, stuck.at(1, minute), 8);
            }
        });
        says.promise(12, "Returns 2 * the station if it is outside, on a track or at its end there, 2 * the stretch + 1 if it is on a stretch",
            () -> {
                for (int down = 0; down < 2; down++) {
                    boolean up = down == 0;
                    PassingTrack x = up ? one(0, 7, 1, 1) : one(7, 0, 1, 1);
                    due.is("outside", x.at(0, 0), up ? 0 : 14);
                    for (int leg = 0; leg < 7; leg++) {
                        int stretch = up ? leg : 6 - leg;
                        due.is("on the stretch " + stretch, x.at(0, 1 + 11 * leg), 2 * stretch + 1);
                        due.is("on the stretch " + stretch, x.at(0, 10 + 11 * leg), 2 * stretch + 1);
                        due.is("at the next station", x.at(0, 11 + 11 * leg), up ? 2 * stretch + 2 : 2 * stretch);
                    }
                }
            });
        says.promise(12, "NO_SUCH if there is no such shuttle; BAD_VALUE if minute is out of range.", () -> {
            PassingTrack x = one(0, 1, 0, 0);
            refuses("at(., 0)", shuttle -> x.at(shuttle, 0), NO_SUCH, Integer.MIN_VALUE, -1, 1, 8, Integer.MAX_VALUE);
            refuses("at(., -1)", shuttle -> x.at(shuttle, -1), NO_SUCH, -1, 1);
            refuses("at(., 10000)", shuttle -> x.at(shuttle, 10000), NO_SUCH, -1, 1);
            refuses("at(0, .)", minute -> x.at(0, minute), BAD_VALUE, -1, 10000);
        });
    }

    private void when() {
        says.promise(13, "- `what`: 0 comes, 1 leaves", () -> {
            PassingTrack x = one(3, 5, 2, 4);
            range("when(0, 4, .)", what -> x.when(0, 4, what), 0, 1, BAD_VALUE);
            row("when(0, 4, .)", what -> x.when(0, 4, what), 12, 16, BAD_VALUE);
        });
        says.promise(13, "Returns the minute; NO_SUCH if there is no such shuttle or station; BAD_VALUE if what is neither 0 nor 1", () -> {
            PassingTrack x = one(0, 1, 0, 0);
            due.is("leaves in minute 0", x.when(0, 0, 1), 0);
            refuses("when(., 0, 2)", shuttle -> x.when(shuttle, 0, 2), NO_SUCH, Integer.MIN_VALUE, -1, 1, 8, Integer.MAX_VALUE);
            refuses("when(., 8, 2)", shuttle -> x.when(shuttle, 8, 2), NO_SUCH, -1, 0, 1);
            refuses("when(0, ., 2)", station -> x.when(0, station, 2), NO_SUCH, Integer.MIN_VALUE, -1, 8, Integer.MAX_VALUE);
            refuses("when(0, ., -1)", station -> x.when(0, station, -1), BAD_VALUE, 0, 7);
            refuses("when(0, ., 2)", station -> x.when(0, station, 2), BAD_VALUE, 0, 7);
        });
        says.promise(13, "NONE if it does not.", () -> {
            PassingTrack x = one(5, 2, 3, 0);
            row("comes: when(0, ., 0)", station -> x.when(0, station, 0), NONE, NONE, 33, 23, 13, NONE, NONE, NONE, NO_SUCH);
            row("leaves: when(0, ., 1)", station -> x.when(0, station, 1), NONE, NONE, NONE, 23, 13, 3, NONE, NONE, NO_SUCH);
            PassingTrack stuck = twoStuck();
            row("stuck: when(0, ., 0)", station -> stuck.when(0, station, 0), NONE, NONE, NONE, 10, NONE, NONE, NONE, NONE);
            row("stuck: when(0, ., 1)", station -> stuck.when(0, station, 1), NONE, NONE, 0, NONE, NONE, NONE, NONE, NONE);
        });
    }

    private void why() {
        says.promise(14, "- `minute`: 0 to 9999", () -> {
            range("why(0, .)", minute -> one(0, 1, 0, 0).why(0, minute), 0, 9999, BAD_VALUE);
            range("stuck: why(0, .)", minute -> twoStuck().why(0, minute), 0, 9999, BAD_VALUE);
        });
        says.promise(14, "0 if it does not wait (also behind the last minute of the day)", () -> {
            PassingTrack x = allReasons();
            int[][] want = {{0, 0}, {3, 0}, {4, 2}, {9, 2}, {10, 3}, {29, 3}, {30, 0}, {40, 0}, {41, 1}, {49, 1}, {50, 0}, {71, 0}, {72, 0}};
            for (int[] pair : want) {
                due.is("why(2, " + pair[0] + ")", x.why(2, pair[0]), pair[1]);
            }
            PassingTrack stuck = twoStuck();
            stuck.late(0, 5);
            due.is("the last minute", stuck.day(0), 15);
            for (int[] pair : new int[][] {{9, 0}, {10, 3}, {15, 3}, {16, 0}, {9999, 0}}) {
                due.is("stuck: why(1, " + pair[0] + ")", stuck.why(1, pair[0]), pair[1]);
            }
        });
        says.promise(14, "NO_SUCH if there is no such shuttle; BAD_VALUE if minute is out of range.", () -> {
            PassingTrack x = one(0, 1, 0, 0);
            refuses("why(., 0)", shuttle -> x.why(shuttle, 0), NO_SUCH, Integer.MIN_VALUE, -1, 1, 8, Integer.MAX_VALUE);
            refuses("why(., -1)", shuttle -> x.why(shuttle, -1), NO_SUCH, -1, 1);
            refuses("why(., 10000)", shuttle -> x.why(shuttle, 10000), NO_SUCH, -1, 1);
            refuses("why(0, .)", minute -> x.why(0, minute), BAD_VALUE, -1, 10000);
        });
    }

    private static PassingTrack onePair() {
        PassingTrack x = one(0, 2, 0, 0);
        x.shuttle(2, 0, 0, 0, 0);
        return x;
    }

    private void meeting() {
        says.promise(15, "- `meeting`: 0 for the first one", () -> {
            range("meeting(., 0) of one", number -> onePair().meeting(number, 0), 0, 0, NO_SUCH);
            refuses("meeting(., 0) of none", number -> one(0, 1, 0, 0).meeting(number, 0), NO_SUCH, -1, 0, 1);
            refuses("meeting(., 0) without shuttles", number -> new PassingTrack().meeting(number, 0), NO_SUCH, -1, 0, 1);
        });
        says.promise(15, "- `what`: 0 its minute, 1 the station, 2 the lower one of both shuttles, 3 the other one", () -> {
            range("meeting(0, .)", what -> onePair().meeting(0, what), 0, 3, BAD_VALUE);
            row("meeting(0, .)", what -> onePair().meeting(0, what), 10, 1, 0, 1, BAD_VALUE);
        });
        says.promise(15, "Returns the number; NO_SUCH if there is no such meeting; BAD_VALUE if what is out of range.", () -> {
            refuses("meeting(., -1)", number -> onePair().meeting(number, -1), NO_SUCH, -1, 1);
            refuses("meeting(., 4)", number -> onePair().meeting(number, 4), NO_SUCH, -1, 1);
            refuses("meeting(0, .)", what -> onePair().meeting(0, what), BAD_VALUE, -1, 4);
        });
    }

    private void areMeetings(PassingTrack x, int[]... want) {
        due.is("day(3)", x.day(3), want.length);
        for (int number = 0; number < want.length; number++) {
            int meeting = number;
            row("meeting(" + meeting + ", .)", what -> x.meeting(meeting, what), want[meeting]);
        }
    }

    private static PassingTrack twoPairs(int lower, int earliest, int other) {
        PassingTrack x = new PassingTrack();
        x.shuttle(lower, lower + 2, earliest, 0, 0);
        x.shuttle(lower + 2, lower, earliest, 0, 0);
        x.shuttle(other, other + 2, 1, 0, 0);
        x.shuttle(other + 2, other, 1, 0, 0);
        return x;
    }

    private void orderOfMeetings() {
        says.promise(15, "in the order of their minutes", () ->
            areMeetings(twoPairs(0, 2, 5), new int[] {11, 6, 2, 3}, new int[] {12, 1, 0, 1}));
        says.promise(15, "of several by the stations", () -> {
            areMeetings(twoPairs(5, 1, 0), new int[] {11, 1, 2, 3}, new int[] {11, 6, 0, 1});
            areMeetings(twoPairs(0, 1, 5), new int[] {11, 1, 0, 1}, new int[] {11, 6, 2, 3});
        });
        says.promise(15, "of these by the lower shuttles, then by the other ones.", () -> {
            PassingTrack x = new PassingTrack();
            x.tracks(4, 4);
            x.running(3, 1);
            x.running(4, 1);
            x.shuttle(5, 0, 0, 20, 0);
            x.shuttle(3, 7, 0, 20, 0);
            x.shuttle(5, 0, 0, 20, 5);
            x.shuttle(3, 7, 0, 20, 5);
            // 2 and 3 come to station 4 in minute 1, 0 and 1 in minute 2.
            areMeetings(x, new int[] {1, 4, 2, 3}, new int[] {2, 4, 0, 1}, new int[] {2, 4, 0, 3}, new int[] {2, 4, 1, 2});
        });
    }
}
