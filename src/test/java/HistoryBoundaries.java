import java.util.ArrayDeque;
import java.util.Deque;
import java.util.function.ToIntFunction;

/** Boundaries of the history and of the slots, promises 24 to 26, and of what is a change. */
final class HistoryBoundaries extends Boundaries {
    HistoryBoundaries(Due due, Sentences says) {
        super(due, says);
    }

    @Override
    void all() {
        changes();
        noChanges();
        nothingDifferent();
        sixStates();
        dropped();
        undone();
        padAndSlotsStay();
        noneIsLeft();
        orders();
        save();
        saveEverything();
        restore();
        restoreIsAChange();
        neverSaved();
    }

    /** Two shuttles, a saved slot, and a pad that can be carried out; all of it ahead of changes to come. */
    private static PassingTrack line() {
        PassingTrack x = new PassingTrack();
        x.tracks(6, 4);
        x.shuttle(2, 5, 10, 3, 4);
        x.save(1);
        x.shuttle(5, 2, 20, 6, 8);
        Texts.putAll(x, "x1");
        return x;
    }

    private void isLine(PassingTrack x) {
        due.is("count(0)", x.count(0), 2);
        due.is("count(1)", x.count(1), 0);
        row("count(4 + .)", what -> x.count(4 + what), 2, 2, 2, 2, 2, 2, 4, 2, 10, 10, 10, 10, 10, 10, 10);
        madeWith(x, 0, 2, 5, 10, 3, 4);
        madeWith(x, 1, 5, 2, 20, 6, 8);
    }

    private void isAChange(int promise, String sentence, ToIntFunction<PassingTrack> change) {
        says.promise(promise, sentence, () -> {
            PassingTrack x = line();
            int before = x.count(3);
            due.holds("it is no error", change.applyAsInt(x) >= 0);
            due.is("one more can be undone", x.count(3), before + 1);
            due.is("undo()", x.undo(), before);
            isLine(x);
        });
    }

    private void changes() {
        isAChange(2, "This is a change.", x -> x.first(2));
        isAChange(3, "This is a change.", x -> x.tracks(0, 1));
        isAChange(4, "This is a change.", x -> x.running(6, 1));
        isAChange(5, "This is a change.", x -> x.shuttle(0, 1, 0, 0, 0));
        isAChange(6, "This is a change.", x -> x.late(0, 290));
        isAChange(7, "This is a change.", x -> x.prefer(1, 0));
        isAChange(8, "This is a change.", x -> x.remove(0));
        isAChange(23, "This is a change", x -> x.carryOut());
        isAChange(26, "This is a change.", x -> x.restore(1));
    }

    private void noChanges() {
        says.promise(24, "each method that is a change, and returns no error, records the state before it", () -> {
            PassingTrack x = line();
            int before = x.count(3);
            int[] asked = {x.put('x'), x.wipe(), x.fault(), x.save(0), x.ofShuttle(0, 12), x.count(0), x.day(0), x.at(0, 0), x.when(0, 0, 0),
                x.why(0, 0), x.meeting(0, 0), x.delayIfLate(0, 1), x.delayIfSlow(0, 1), x.bestTrack(0), x.bestOrder(0)};
            due.is("behind " + asked.length + " calls that are none", x.count(3), before);
            int[] refused = {x.first(3), x.tracks(0, 5), x.running(0, 31), x.shuttle(0, 0, 0, 0, 0), x.late(0, 301), x.prefer(0, 10),
                x.remove(2), x.carryOut(), x.restore(2)};
            due.is("behind " + refused.length + " calls that are refused", x.count(3), before);
            due.is("undo() undoes the last one that was one", x.undo(), before - 1);
            due.is("count(0)", x.count(0), 1);
        });
    }

    private void nothingDifferent() {
        says.promise(24, "(also if nothing is different then)", () -> {
            PassingTrack x = new PassingTrack();
            x.first(0);
            x.tracks(0, 2);
            x.running(0, 10);
            due.is("first, tracks and running: count(3)", x.count(3), 3);
            x.shuttle(0, 1, 0, 0, 5);
            x.prefer(0, 5);
            x.save(0);
            due.is("prefer: count(3)", x.count(3), 5);
            x.undo();
            x.restore(0);
            due.is("restore: count(3)", x.count(3), 5);
            Texts.putAll(x, "p0=5");
            x.carryOut();
            due.is("carryOut: count(3)", x.count(3), 6);
        });
    }

    private void sixStates() {
        says.promise(24, "A history of at most 6 states is kept", () -> {
            for (int changes = 0; changes <= 20; changes++) {
                PassingTrack x = new PassingTrack();
                for (int change = 1; change <= changes; change++) {
                    x.running(0, change);
                }
                int kept = Math.min(changes, 6);
                due.is("behind " + changes + " changes", x.count(3), kept);
                for (int left = kept - 1; left >= 0; left--) {
                    due.is("undo() of " + changes, x.undo(), left);
                    int undone = changes - kept + left;
                    due.is("the state behind " + undone, x.count(12), undone == 0 ? 10 : undone);
                }
                due.is("no more of " + changes, x.undo(), NOT_POSSIBLE);
            }
        });
    }

    private void dropped() {
        says.promise(24, "when one more is recorded, the oldest one is dropped.", () -> {
            PassingTrack x = new PassingTrack();
            Deque<Integer> history = new ArrayDeque<>();
            int now = 10;
            for (int turn = 0; turn < 8; turn++) {
                for (int change = 0; change < 5 + turn; change++) {
                    history.addLast(now);
                    if (history.size() > 6) {
                        history.removeFirst();
                    }
                    now = 1 + (now + 6) % 30;
                    x.running(3, now);
                }
                for (int undone = 0; undone < 4 && !history.isEmpty(); undone++) {
                    now = history.removeLast();
                    due.is("undo()", x.undo(), history.size());
                    due.is("count(15)", x.count(15), now);
                }
            }
        });
    }

    private void undone() {
        says.promise(24, "Undoes the latest change", () -> {
            PassingTrack x = new PassingTrack();
            x.first(1);
            x.first(2);
            due.is("undo()", x.undo(), 1);
            due.is("count(1)", x.count(1), 1);
            x.tracks(0, 3);
            due.is("undo() of a change behind an undo", x.undo(), 1);
            due.is("count(4)", x.count(4), 2);
            due.is("count(1)", x.count(1), 1);
            due.is("undo() of the one before", x.undo(), 0);
            due.is("count(1)", x.count(1), 0);
        });
    }

    private void padAndSlotsStay() {
        says.promise(24, "everything except the pad, the slots and the history is as it was before it.", () -> {
            PassingTrack x = line();
            x.save(0);
            x.remove(0);
            x.save(1);
            Texts.putAll(x, ";x0");
            due.is("undo()", x.undo(), 3);
            isLine(x);
            due.is("the pad stays: count(2)", x.count(2), 5);
            due.is("undo()", x.undo(), 2);
            due.is("the slot 0 stays: restore(0)", x.restore(0), 2);
            due.is("the slot 1 stays: restore(1)", x.restore(1), 1);
            madeWith(x, 0, 5, 2, 20, 6, 8);
            PassingTrack y = line();
            y.carryOut();
            y.undo();
            due.is("what was carried out does not come back: count(2)", y.count(2), 0);
        });
    }

    private void noneIsLeft() {
        says.promise(24, "Returns how many changes can be undone then; NOT_POSSIBLE if there is none.", () -> {
            PassingTrack x = new PassingTrack();
            due.is("undo()", x.undo(), NOT_POSSIBLE);
            x.shuttle(0, 1, 0, 0, 0);
            due.is("undo()", x.undo(), 0);
            due.is("undo()", x.undo(), NOT_POSSIBLE);
            due.is("it is no change: undo()", x.undo(), NOT_POSSIBLE);
            due.is("count(0)", x.count(0), 0);
            due.is("count(3)", x.count(3), 0);
        });
    }

    private void orders() {
        says.promise(24, "An order of a text records nothing by itself.", () -> {
            PassingTrack x = new PassingTrack();
            x.first(1);
            Texts.putAll(x, "s0>1@0;l0+1;t0=1;r0=1;p0=1;x0;t1=5");
            due.is("carryOut()", x.carryOut(), 6);
            due.is("count(3)", x.count(3), 2);
            due.is("undo()", x.undo(), 1);
            due.is("count(4)", x.count(4), 2);
            due.is("count(12)", x.count(12), 10);
            due.is("undo()", x.undo(), 0);
            due.is("count(1)", x.count(1), 0);
        });
    }

    private void save() {
        says.promise(25, "- `slot`: 0 or 1", () -> {
            PassingTrack x = new PassingTrack();
            range("save(.)", x::save, 0, 1, BAD_VALUE);
        });
        says.promise(25, "Returns how many shuttles there are; BAD_VALUE if there is no such slot.", () -> {
            PassingTrack x = new PassingTrack();
            for (int number = 0; number <= 8; number++) {
                due.is("save(0)", x.save(0), number);
                due.is("save(1)", x.save(1), number);
                due.is("save(2)", x.save(2), BAD_VALUE);
                x.shuttle(0, 1, 0, 0, 0);
            }
        });
        says.promise(25, "and overwrites what was saved there.", () -> {
            for (int slot = 0; slot < 2; slot++) {
                PassingTrack x = line();
                x.save(slot);
                x.remove(0);
                x.save(1 - slot);
                x.remove(0);
                x.save(slot);
                x.shuttle(0, 1, 0, 0, 0);
                due.is("what was saved last", x.restore(slot), 0);
                due.is("the other slot", x.restore(1 - slot), 1);
                madeWith(x, 0, 5, 2, 20, 6, 8);
            }
        });
    }

    private void saveEverything() {
        says.promise(25, "Saves everything except the pad, the history and the slots in a slot", () -> {
            PassingTrack x = line();
            x.first(0);
            x.save(0);
            x.first(2);
            for (int station = 0; station < 8; station++) {
                x.tracks(station, 1);
            }
            for (int stretch = 0; stretch < 7; stretch++) {
                x.running(stretch, 1);
            }
            x.late(0, 1);
            x.prefer(0, 0);
            x.remove(1);
            x.shuttle(0, 1, 0, 0, 0);
            Texts.putAll(x, ";p0=1");
            due.is("restore(0)", x.restore(0), 2);
            isLine(x);
            due.is("the pad stays: count(2)", x.count(2), 7);
            due.is("the history stays: count(3)", x.count(3), 6);
            due.is("undo()", x.undo(), 5);
            due.is("undo()", x.undo(), 4);
            due.is("the history stays: count(0)", x.count(0), 1);
            due.is("the slot 1 stays", x.restore(1), 1);
        });
    }

    private void restore() {
        says.promise(26, "- `slot`: 0 or 1", () -> {
            PassingTrack x = new PassingTrack();
            x.save(0);
            x.save(1);
            range("restore(.)", x::restore, 0, 1, BAD_VALUE);
        });
        says.promise(26, "Restores what was saved last in a slot, which keeps it.", () -> {
            PassingTrack x = line();
            x.save(0);
            for (int time = 0; time < 3; time++) {
                due.is("restore(0)", x.restore(0), 2);
                isLine(x);
                x.remove(0);
                x.late(0, 5);
                x.tracks(6, 1);
                x.running(0, 5);
                x.first(1);
            }
            due.is("what changes later is not in the slot: restore(1)", x.restore(1), 1);
            madeWith(x, 0, 2, 5, 10, 3, 4);
        });
        says.promise(26, "Returns how many shuttles there are then", () -> {
            for (int number = 0; number <= 8; number += 8) {
                PassingTrack x = new PassingTrack();
                many(x, number, 0, 1);
                x.save(0);
                x.shuttle(0, 1, 0, 0, 0);
                x.remove(0);
                due.is("restore(0)", x.restore(0), number);
                due.is("count(0)", x.count(0), number);
            }
        });
    }

    private void restoreIsAChange() {
        says.promise(26, "This is a change.", () -> {
            PassingTrack x = new PassingTrack();
            x.save(0);
            for (int change = 0; change < 6; change++) {
                x.first(1);
            }
            due.is("restore(0)", x.restore(0), 0);
            due.is("the oldest one is dropped: count(3)", x.count(3), 6);
            due.is("count(1)", x.count(1), 0);
            due.is("undo()", x.undo(), 5);
            due.is("count(1)", x.count(1), 1);
        });
    }

    private void neverSaved() {
        says.promise(26, "BAD_VALUE if there is no such slot; NOT_POSSIBLE if nothing was saved in it.", () -> {
            PassingTrack x = new PassingTrack();
            refuses("restore(.)", x::restore, BAD_VALUE, Integer.MIN_VALUE, -1, 2, Integer.MAX_VALUE);
            refuses("restore(.)", x::restore, NOT_POSSIBLE, 0, 1);
            x.save(1);
            refuses("restore(.) with 1 saved", x::restore, NOT_POSSIBLE, 0);
            takes("restore(.) with 1 saved", x::restore, 1);
            x.save(0);
            takes("restore(.) with both saved", x::restore, 0, 1);
            PassingTrack y = new PassingTrack();
            y.shuttle(0, 1, 0, 0, 0);
            y.save(0);
            y.undo();
            due.is("undo takes nothing out of a slot", y.restore(0), 1);
        });
    }
}
