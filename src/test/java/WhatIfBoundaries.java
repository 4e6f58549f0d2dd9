/** Boundaries of what is tried: late starts, slow stretches, one more track and orders, promises 16 to 19. */
final class WhatIfBoundaries extends Boundaries {
    WhatIfBoundaries(Due due, Sentences says) {
        super(due, says);
    }

    @Override
    void all() {
        delayIfLate();
        delayIfLateErrors();
        delayIfSlow();
        delayIfSlowErrors();
        bestTrack();
        fullStations();
        noBestTrack();
        bestOrder();
        bestOrderErrors();
        bestOrderOfStuck();
        bestOrderOfSeveral();
        allOrders();
    }

    private void delayIfLate() {
        says.promise(16, "Tells the delay of the day if a shuttle started later (its own delay is from that later minute on).", () -> {
            PassingTrack x = one(0, 1, 0, 0);
            due.is("it has none of its own", x.delayIfLate(0, 1), 0);
            due.is("it has none of its own", x.delayIfLate(0, 300), 0);
            x.shuttle(1, 0, 0, 0, 0);
            due.is("a minute less to wait", x.delayIfLate(1, 1), 9);
            due.is("a minute to wait", x.delayIfLate(1, 9), 1);
            due.is("none to wait", x.delayIfLate(1, 10), 0);
            due.is("the other one waits for it", x.delayIfLate(0, 9), 1);
        });
        says.promise(16, "- `minutes`: 1 to 300, as for late()", () -> {
            range("delayIfLate(0, .)", minutes -> one(0, 1, 0, 0).delayIfLate(0, minutes), 1, 300, BAD_VALUE);
            range("delayIfLate(0, .) of 1", minutes -> one(0, 1, 1, 0).delayIfLate(0, minutes), 1, 299, BAD_VALUE);
            range("delayIfLate(0, .) of 299", minutes -> one(0, 1, 299, 0).delayIfLate(0, minutes), 1, 1, BAD_VALUE);
            refuses("delayIfLate(0, .) of 300", minutes -> one(0, 1, 300, 0).delayIfLate(0, minutes), BAD_VALUE, 0, 1, 300);
        });
    }

    private void delayIfLateErrors() {
        says.promise(16, "Returns the delay; NO_SUCH and BAD_VALUE as for late()", () -> {
            PassingTrack x = one(0, 1, 0, 0);
            refuses("delayIfLate(., 1)", shuttle -> x.delayIfLate(shuttle, 1), NO_SUCH, Integer.MIN_VALUE, -1, 1, 8, Integer.MAX_VALUE);
            refuses("delayIfLate(., 0)", shuttle -> x.delayIfLate(shuttle, 0), NO_SUCH, -1, 1);
            refuses("delayIfLate(., 301)", shuttle -> x.delayIfLate(shuttle, 301), NO_SUCH, -1, 1);
            due.is("without shuttles", new PassingTrack().delayIfLate(0, 1), NO_SUCH);
            due.is("stuck, too", twoStuck().delayIfLate(0, 301), BAD_VALUE);
        });
        says.promise(16, "NONE if there is none.", () -> {
            PassingTrack x = twoStuck();
            due.is("both come to one another: delayIfLate(0, 1)", x.delayIfLate(0, 1), NONE);
            due.is("1 is at 3 already: delayIfLate(0, 11)", x.delayIfLate(0, 11), 19);
            due.is("1 is through: delayIfLate(0, 300)", x.delayIfLate(0, 300), 0);
            PassingTrack y = one(2, 5, 300, 0);
            y.tracks(3, 1);
            y.tracks(4, 1);
            y.shuttle(5, 2, 0, 0, 0);
            due.is("nobody is stuck", y.day(1), 0);
            due.is("both are, if the other one is late: delayIfLate(1, 300)", y.delayIfLate(1, 300), NONE);
        });
    }

    private void delayIfSlow() {
        says.promise(17, "Tells the delay of the day if a stretch had another running time (also for the undisturbed times).", () -> {
            PassingTrack x = one(0, 2, 0, 0);
            due.is("nobody waits", x.delayIfSlow(0, 30), 0);
            due.is("nobody waits", x.delayIfSlow(1, 1), 0);
            x.shuttle(0, 2, 0, 0, 0);
            due.is("as it is", x.day(1), 10);
            due.is("the same time", x.delayIfSlow(0, 10), 10);
            due.is("a minute", x.delayIfSlow(0, 1), 1 + 9);
            due.is("30 minutes", x.delayIfSlow(0, 30), 30);
            due.is("a stretch that nobody goes on", x.delayIfSlow(6, 30), 10);
        });
    }

    private void delayIfSlowErrors() {
        says.promise(17, "Returns the delay; NO_SUCH and BAD_VALUE as for running()", () -> {
            range("delayIfSlow(0, .)", minutes -> one(0, 1, 0, 0).delayIfSlow(0, minutes), 1, 30, BAD_VALUE);
            range("delayIfSlow(6, .)", minutes -> one(0, 1, 0, 0).delayIfSlow(6, minutes), 1, 30, BAD_VALUE);
            range("delayIfSlow(., 30)", stretch -> one(0, 1, 0, 0).delayIfSlow(stretch, 30), 0, 6, NO_SUCH);
            refuses("delayIfSlow(., 0)", stretch -> new PassingTrack().delayIfSlow(stretch, 0), NO_SUCH, -1, 7);
            refuses("delayIfSlow(., 31)", stretch -> new PassingTrack().delayIfSlow(stretch, 31), NO_SUCH, -1, 7);
            due.is("stuck, too", twoStuck().delayIfSlow(0, 31), BAD_VALUE);
        });
        says.promise(17, "NONE if there is none.", () -> {
            due.is("stuck", twoStuck().delayIfSlow(0, 1), NONE);
            PassingTrack x = new PassingTrack();
            x.tracks(3, 1);
            x.tracks(4, 1);
            x.shuttle(2, 5, 10, 0, 0);
            x.shuttle(5, 2, 0, 0, 0);
            // In minute 10 both want the track at 3; 0 gets it, and 1 stands at 4.
            due.is("as it is", x.day(1), NONE);
            due.is("1 comes to 4 in minute 9, and has the track at 3", x.delayIfSlow(4, 9), 19);
            due.is("1 comes to 4 too late", x.delayIfSlow(4, 11), NONE);
        });
    }

    private void bestTrack() {
        says.promise(18, "- `what`: 0 the station, 1 the delay then", () -> {
            range("bestTrack(.)", what -> one(0, 1, 0, 0).bestTrack(what), 0, 1, BAD_VALUE);
            range("stuck: bestTrack(.)", what -> twoStuck().bestTrack(what), 0, 1, BAD_VALUE);
            row("without shuttles: bestTrack(.)", what -> new PassingTrack().bestTrack(what), 0, 0, BAD_VALUE);
        });
        says.promise(18, "Finds the station at which one more track would make the delay of the day the least, of several the lowest one",
            () -> {
                row("one more at 3 or at 4: bestTrack(.)", what -> twoStuck().bestTrack(what), 3, 10);
                row("no track helps: bestTrack(.)", what -> one(0, 7, 0, 0).bestTrack(what), 0, 0);
                for (int station = 1; station < 7; station++) {
                    PassingTrack x = new PassingTrack();
                    x.tracks(station, 1);
                    x.shuttle(station - 1, station + 1, 0, 20, 0);
                    x.shuttle(station - 1, station + 1, 10, 20, 0);
                    due.is("as it is", x.day(1), 20);
                    due.is("one at " + station + ": bestTrack(0)", x.bestTrack(0), station);
                    due.is("one at " + station + ": bestTrack(1)", x.bestTrack(1), 0);
                }
            });
    }

    /** Five want to stand at station 1 for 20 minutes; each comes there a minute behind the one before. */
    private static PassingTrack fiveAtOne(int tracks) {
        PassingTrack x = new PassingTrack();
        x.running(0, 1);
        x.running(1, 1);
        x.tracks(1, tracks);
        for (int number = 0; number < 5; number++) {
            x.shuttle(0, 2, 0, 20, 0);
        }
        return x;
    }

    private void fullStations() {
        says.promise(18, "stations with 4 tracks do not count.", () -> {
            due.is("3 tracks at 1", fiveAtOne(3).day(1), 1 + 2 + 21 + 22);
            row("3 tracks at 1: bestTrack(.)", what -> fiveAtOne(3).bestTrack(what), 1, 1 + 2 + 3 + 21);
            due.is("4 tracks at 1", fiveAtOne(4).day(1), 1 + 2 + 3 + 21);
            row("4 tracks at 1: bestTrack(.)", what -> fiveAtOne(4).bestTrack(what), 0, 1 + 2 + 3 + 21);
            PassingTrack x = new PassingTrack();
            for (int station = 0; station < 7; station++) {
                x.tracks(station, 4);
                due.is("the lowest one with less than 4", x.bestTrack(0), station + 1);
            }
            x.tracks(7, 4);
            row("none has less than 4: bestTrack(.)", x::bestTrack, NONE, NONE, BAD_VALUE);
        });
    }

    private void noBestTrack() {
        says.promise(18, "Returns the number; BAD_VALUE if what is neither 0 nor 1; NONE if there would be no delay of the day with any"
            + " (some shuttle is stuck).", () -> {
            PassingTrack x = new PassingTrack();
            for (int from = 0; from <= 4; from += 4) {
                x.tracks(from + 1, 1);
                x.tracks(from + 2, 1);
                x.shuttle(from, from + 3, 0, 0, 0);
                x.shuttle(from + 3, from, 0, 0, 0);
            }
            due.is("stuck at two places", x.day(2), 15);
            row("no one track helps: bestTrack(.)", x::bestTrack, NONE, NONE, BAD_VALUE);
            refuses("bestTrack(.)", x::bestTrack, BAD_VALUE, Integer.MIN_VALUE, -1, 2, Integer.MAX_VALUE);
        });
    }

    private void bestOrder() {
        says.promise(19, "- `what`: 0 the delay, 1 and on: the shuttle in this place of the order (1 is the first one)", () -> {
            row("without shuttles: bestOrder(.)", what -> new PassingTrack().bestOrder(what), 0, BAD_VALUE);
            row("of one: bestOrder(.)", what -> one(0, 1, 0, 0).bestOrder(what), 0, 0, BAD_VALUE);
            PassingTrack x = new PassingTrack();
            for (int number = 1; number <= 5; number++) {
                x.shuttle(number, number + 1, 0, 0, 0);
                range("bestOrder(.) of " + number, x::bestOrder, 0, number, BAD_VALUE);
                due.is("the last place of " + number, x.bestOrder(number), number - 1);
            }
        });
        says.promise(19, "with FIRST as 0", () -> {
            for (int first = 0; first <= 2; first++) {
                PassingTrack x = orderMatters();
                x.first(first);
                row("FIRST is " + first + ": bestOrder(.)", x::bestOrder, 30, 1, 2, 0, BAD_VALUE);
                due.is("something is tried with FIRST as " + first, x.delayIfLate(0, 300), 0);
                row("FIRST is " + first + " still: bestOrder(.)", x::bestOrder, 30, 1, 2, 0, BAD_VALUE);
            }
        });
        says.promise(19, "(the first one has the greatest, all are different)", () -> {
            int[][] some = {{0, 0, 0}, {9, 9, 9}, {9, 5, 0}};
            for (int[] priorities : some) {
                PassingTrack x = orderMatters();
                for (int shuttle = 0; shuttle < 3; shuttle++) {
                    x.prefer(shuttle, priorities[shuttle]);
                }
                due.is("as it is: day(1)", x.day(1), NONE);
                row("whatever they have: bestOrder(.)", x::bestOrder, 30, 1, 2, 0, BAD_VALUE);
            }
        });
    }

    /** 0 has to be the last one: if it leaves to station 1 ahead of 2 or of 1, it stands there against 1. */
    private static PassingTrack orderMatters() {
        PassingTrack x = new PassingTrack();
        x.tracks(1, 1);
        x.tracks(2, 1);
        x.shuttle(0, 3, 0, 0, 0);
        x.shuttle(3, 0, 0, 0, 0);
        x.shuttle(1, 0, 0, 0, 0);
        return x;
    }

    private void bestOrderErrors() {
        says.promise(19, "Returns the number; BAD_VALUE if what is not 0 to the number of shuttles; NOT_POSSIBLE if there are more than"
            + " 5 shuttles", () -> {
            for (int number = 0; number <= 8; number++) {
                PassingTrack x = new PassingTrack();
                many(x, number, 0, 1);
                refuses("bestOrder(.) of " + number, x::bestOrder, BAD_VALUE, Integer.MIN_VALUE, -1, number + 1, Integer.MAX_VALUE);
                if (number > 5) {
                    refuses("bestOrder(.) of " + number, x::bestOrder, NOT_POSSIBLE, 0, 1, 5, number);
                } else {
                    takes("bestOrder(.) of " + number, x::bestOrder, 0, number);
                }
            }
        });
    }

    private void bestOrderOfStuck() {
        says.promise(19, "NONE if with each order some shuttle is stuck.", () -> {
            PassingTrack x = twoStuck();
            row("two: bestOrder(.)", x::bestOrder, NONE, NONE, NONE, BAD_VALUE);
            many(x, 3, 0, 1);
            row("five: bestOrder(.)", x::bestOrder, NONE, NONE, NONE, NONE, NONE, NONE, BAD_VALUE);
            many(x, 1, 0, 1);
            row("six are not possible: bestOrder(.)", x::bestOrder, NOT_POSSIBLE, NOT_POSSIBLE);
            PassingTrack some = orderMatters();
            due.is("with some orders only", some.day(2), 3);
            due.is("bestOrder(0)", some.bestOrder(0), 30);
        });
    }

    private void bestOrderOfSeveral() {
        says.promise(19, "of several the first one, compared by the shuttles from the first one on, lower ones first", () -> {
            PassingTrack x = new PassingTrack();
            for (int number = 0; number < 5; number++) {
                x.shuttle(number, number + 1, 0, 0, number);
            }
            row("all are the same: bestOrder(.)", x::bestOrder, 0, 0, 1, 2, 3, 4);
            row("1, 2, 0 is as good as 2, 1, 0: bestOrder(.)", what -> orderMatters().bestOrder(what), 30, 1, 2, 0);
            PassingTrack y = orderMatters();
            y.remove(2);
            y.shuttle(6, 7, 0, 0, 9);
            y.shuttle(1, 0, 0, 0, 0);
            // 3 and 1 ahead of 0, and 2 wherever it is: 1, 2, 3, 0 comes ahead of 1, 3, 0, 2 and of 2, 1, 3, 0.
            row("one more that is free: bestOrder(.)", y::bestOrder, 30, 1, 2, 3, 0, BAD_VALUE);
        });
    }

    /** A line on which only one of all 120 orders has a delay of 72; its shuttles get the numbers that make a given order that one. */
    private static PassingTrack onlyBest(int[] order) {
        int[][] inBestOrder = {{2, 0, 0, 3}, {1, 2, 0, 5}, {2, 0, 9, 2}, {1, 2, 14, 4}, {2, 0, 5, 5}};
        PassingTrack x = new PassingTrack();
        x.running(0, 19);
        x.running(2, 3);
        x.tracks(0, 1);
        x.tracks(2, 1);
        for (int number = 0; number < 5; number++) {
            int place = 0;
            while (order[place] != number) {
                place++;
            }
            int[] made = inBestOrder[place];
            x.shuttle(made[0], made[1], made[2], made[3], 0);
        }
        return x;
    }

    private void allOrders() {
        says.promise(19, "All orders are tried.", () -> {
            int tried = 0;
            for (int number = 0; number < 5 * 5 * 5 * 5 * 5; number++) {
                int[] order = {number / 625, number / 125 % 5, number / 25 % 5, number / 5 % 5, number % 5};
                int used = 0;
                for (int shuttle : order) {
                    used |= 1 << shuttle;
                }
                if (used == 31) {
                    tried++;
                    row("bestOrder(.)", onlyBest(order)::bestOrder, 72, order[0], order[1], order[2], order[3], order[4]);
                }
            }
            due.is("orders", tried, 120);
        });
    }
}
