/** Each promise of the document by hand: ordinary inputs, the edges that it names, and wrong inputs. */
public final class PromisesTest {
    private static final int NO_SUCH = -1, BAD_VALUE = -2, BAD_TEXT = -3, TOO_MANY = -4, NOT_POSSIBLE = -5, NONE = -6;
    private static final int[] FAR = {Integer.MIN_VALUE, Integer.MAX_VALUE};

    private static final Due due = new Due();

    public static void main(String[] args) {
        constants();
        newObject();
        first();
        tracks();
        running();
        shuttle();
        late();
        prefer();
        remove();
        ofShuttle();
        ofShuttleWaits();
        count();
        dayOfFew();
        dayOfStuck();
        dayTracks();
        dayWhoGoesFirst();
        at();
        when();
        why();
        meeting();
        meetingOrder();
        delayIfLate();
        delayIfSlow();
        bestTrack();
        bestOrder();
        bestOrderOfSeveral();
        put();
        wipe();
        fault();
        faultOfNumbers();
        carryOut();
        carryOutErrors();
        undo();
        save();
        restore();
        errorsChangeNothing();
        due.end("PromisesTest");
    }

    private static void faultOf(String text, int want) {
        PassingTrack x = new PassingTrack();
        Texts.putAll(x, text);
        due.is("fault() of " + text, x.fault(), want);
        due.is("fault() again", x.fault(), want);
        due.is("length behind fault()", x.count(2), text.length());
        due.is("carryOut() of " + text, Math.min(x.carryOut(), 0), want == NONE ? 0 : BAD_TEXT);
        due.is("length behind carryOut()", x.count(2), want == NONE ? 0 : text.length());
    }

    private static void isDefaultLine(PassingTrack x) {
        due.is("count(0)", x.count(0), 0);
        due.is("count(1)", x.count(1), 0);
        for (int station = 0; station < 8; station++) {
            due.is("count of tracks at " + station, x.count(4 + station), 2);
        }
        for (int stretch = 0; stretch < 7; stretch++) {
            due.is("count of the running time of " + stretch, x.count(12 + stretch), 10);
        }
    }

    private static void constants() {
        due.about("constants");
        due.is("NO_SUCH", PassingTrack.NO_SUCH, -1);
        due.is("BAD_VALUE", PassingTrack.BAD_VALUE, -2);
        due.is("BAD_TEXT", PassingTrack.BAD_TEXT, -3);
        due.is("TOO_MANY", PassingTrack.TOO_MANY, -4);
        due.is("NOT_POSSIBLE", PassingTrack.NOT_POSSIBLE, -5);
        due.is("NONE", PassingTrack.NONE, -6);
    }

    private static void newObject() {
        due.about("promise 1");
        PassingTrack other = new PassingTrack();
        other.first(2);
        other.tracks(3, 4);
        other.running(3, 4);
        other.shuttle(0, 7, 0, 0, 0);
        other.save(0);
        other.put('x');
        PassingTrack x = new PassingTrack();
        isDefaultLine(x);
        due.is("count(2)", x.count(2), 0);
        due.is("count(3)", x.count(3), 0);
        due.is("undo()", x.undo(), NOT_POSSIBLE);
        due.is("restore(0)", x.restore(0), NOT_POSSIBLE);
        due.is("restore(1)", x.restore(1), NOT_POSSIBLE);
        due.is("day(0)", x.day(0), 0);
        due.is("day(1)", x.day(1), 0);
        due.is("day(2)", x.day(2), 0);
        due.is("day(3)", x.day(3), 0);
        due.is("day(4)", x.day(4), 0);
        due.is("day(5)", x.day(5), NONE);
    }

    private static void first() {
        due.about("promise 2");
        PassingTrack x = new PassingTrack();
        due.is("first(2)", x.first(2), 0);
        due.is("first(1)", x.first(1), 2);
        due.is("first(1)", x.first(1), 1);
        due.is("first(-1)", x.first(-1), BAD_VALUE);
        due.is("first(3)", x.first(3), BAD_VALUE);
        for (int far : FAR) {
            due.is("first(" + far + ")", x.first(far), BAD_VALUE);
        }
        due.is("count(1)", x.count(1), 1);
        due.is("count(3)", x.count(3), 3);
        due.is("first(0)", x.first(0), 1);
    }

    private static void tracks() {
        due.about("promise 3");
        PassingTrack x = new PassingTrack();
        due.is("tracks(0, 1)", x.tracks(0, 1), 2);
        due.is("tracks(0, 4)", x.tracks(0, 4), 1);
        due.is("tracks(7, 3)", x.tracks(7, 3), 2);
        due.is("count(4)", x.count(4), 4);
        due.is("count(11)", x.count(11), 3);
        due.is("count(5)", x.count(5), 2);
        due.is("tracks(-1, 0)", x.tracks(-1, 0), NO_SUCH);
        due.is("tracks(8, 5)", x.tracks(8, 5), NO_SUCH);
        due.is("tracks(7, 0)", x.tracks(7, 0), BAD_VALUE);
        due.is("tracks(7, 5)", x.tracks(7, 5), BAD_VALUE);
        for (int far : FAR) {
            due.is("tracks(" + far + ", 2)", x.tracks(far, 2), NO_SUCH);
            due.is("tracks(2, " + far + ")", x.tracks(2, far), BAD_VALUE);
        }
        due.is("count(3)", x.count(3), 3);
    }

    private static void running() {
        due.about("promise 4");
        PassingTrack x = new PassingTrack();
        due.is("running(0, 1)", x.running(0, 1), 10);
        due.is("running(0, 30)", x.running(0, 30), 1);
        due.is("running(6, 7)", x.running(6, 7), 10);
        due.is("count(12)", x.count(12), 30);
        due.is("count(18)", x.count(18), 7);
        due.is("count(13)", x.count(13), 10);
        due.is("running(-1, 0)", x.running(-1, 0), NO_SUCH);
        due.is("running(7, 31)", x.running(7, 31), NO_SUCH);
        due.is("running(6, 0)", x.running(6, 0), BAD_VALUE);
        due.is("running(6, 31)", x.running(6, 31), BAD_VALUE);
        for (int far : FAR) {
            due.is("running(" + far + ", 2)", x.running(far, 2), NO_SUCH);
            due.is("running(2, " + far + ")", x.running(2, far), BAD_VALUE);
        }
        due.is("count(3)", x.count(3), 3);
    }

    private static void shuttle() {
        due.about("promise 5");
        PassingTrack x = new PassingTrack();
        due.is("shuttle(-1, 3, ..)", x.shuttle(-1, 3, 0, 0, 0), NO_SUCH);
        due.is("shuttle(8, 3, ..)", x.shuttle(8, 3, 0, 0, 0), NO_SUCH);
        due.is("shuttle(3, -1, ..)", x.shuttle(3, -1, 0, 0, 0), NO_SUCH);
        due.is("shuttle(3, 8, ..)", x.shuttle(3, 8, -1, -1, -1), NO_SUCH);
        due.is("shuttle(8, 8, ..)", x.shuttle(8, 8, 0, 0, 0), NO_SUCH);
        due.is("shuttle(3, 3, ..)", x.shuttle(3, 3, 0, 0, 0), BAD_VALUE);
        due.is("shuttle(0, 1, -1, 0, 0)", x.shuttle(0, 1, -1, 0, 0), BAD_VALUE);
        due.is("shuttle(0, 1, 301, 0, 0)", x.shuttle(0, 1, 301, 0, 0), BAD_VALUE);
        due.is("shuttle(0, 1, 0, -1, 0)", x.shuttle(0, 1, 0, -1, 0), BAD_VALUE);
        due.is("shuttle(0, 1, 0, 21, 0)", x.shuttle(0, 1, 0, 21, 0), BAD_VALUE);
        due.is("shuttle(0, 1, 0, 0, -1)", x.shuttle(0, 1, 0, 0, -1), BAD_VALUE);
        due.is("shuttle(0, 1, 0, 0, 10)", x.shuttle(0, 1, 0, 0, 10), BAD_VALUE);
        for (int far : FAR) {
            due.is("shuttle(far, 1, 0, 0, 0)", x.shuttle(far, 1, 0, 0, 0), NO_SUCH);
            due.is("shuttle(0, far, 0, 0, 0)", x.shuttle(0, far, 0, 0, 0), NO_SUCH);
            due.is("shuttle(0, 1, far, 0, 0)", x.shuttle(0, 1, far, 0, 0), BAD_VALUE);
            due.is("shuttle(0, 1, 0, far, 0)", x.shuttle(0, 1, 0, far, 0), BAD_VALUE);
            due.is("shuttle(0, 1, 0, 0, far)", x.shuttle(0, 1, 0, 0, far), BAD_VALUE);
        }
        due.is("count(0)", x.count(0), 0);
        due.is("count(3)", x.count(3), 0);
        due.is("shuttle(7, 0, 300, 20, 9)", x.shuttle(7, 0, 300, 20, 9), 0);
        due.is("shuttle(2, 5, 1, 3, 4)", x.shuttle(2, 5, 1, 3, 4), 1);
        for (int number = 2; number < 8; number++) {
            due.is("shuttle(0, 1, 0, 0, 0)", x.shuttle(0, 1, 0, 0, 0), number);
        }
        due.is("a ninth one", x.shuttle(0, 1, 0, 0, 0), TOO_MANY);
        due.is("a ninth one without a station", x.shuttle(0, 8, 0, 0, 0), NO_SUCH);
        due.is("a ninth one with a bad value", x.shuttle(0, 1, 0, 0, 10), BAD_VALUE);
        due.is("count(0)", x.count(0), 8);
        int[] want = {2, 5, 1, 3, 4};
        for (int what = 0; what < 5; what++) {
            due.is("ofShuttle(1, " + what + ")", x.ofShuttle(1, what), want[what]);
        }
    }

    private static void late() {
        due.about("promise 6");
        PassingTrack x = new PassingTrack();
        x.shuttle(0, 1, 100, 0, 0);
        x.shuttle(0, 1, 0, 0, 0);
        due.is("late(0, 1)", x.late(0, 1), 101);
        due.is("late(0, 199)", x.late(0, 199), 300);
        due.is("late(1, 300)", x.late(1, 300), 300);
        due.is("late(0, 1)", x.late(0, 1), BAD_VALUE);
        x.prefer(1, 1);
        x.undo();
        due.is("late(1, 0)", x.late(1, 0), BAD_VALUE);
        due.is("late(1, -1)", x.late(1, -1), BAD_VALUE);
        due.is("late(1, 301)", x.late(1, 301), BAD_VALUE);
        due.is("late(2, 0)", x.late(2, 0), NO_SUCH);
        due.is("late(-1, 1)", x.late(-1, 1), NO_SUCH);
        for (int far : FAR) {
            due.is("late(0, " + far + ")", x.late(0, far), BAD_VALUE);
            due.is("late(" + far + ", 1)", x.late(far, 1), NO_SUCH);
        }
        due.is("ofShuttle(0, 2)", x.ofShuttle(0, 2), 300);
        due.is("when(1, 0, 1)", x.when(1, 0, 1), 310);
        due.is("count(3)", x.count(3), 5);
    }

    private static void prefer() {
        due.about("promise 7");
        PassingTrack x = new PassingTrack();
        x.shuttle(0, 1, 0, 0, 3);
        x.shuttle(0, 1, 0, 0, 3);
        due.is("when(1, 0, 1)", x.when(1, 0, 1), 10);
        due.is("prefer(1, 9)", x.prefer(1, 9), 3);
        due.is("when(1, 0, 1)", x.when(1, 0, 1), 0);
        due.is("prefer(1, 0)", x.prefer(1, 0), 9);
        due.is("ofShuttle(1, 4)", x.ofShuttle(1, 4), 0);
        due.is("ofShuttle(0, 4)", x.ofShuttle(0, 4), 3);
        due.is("prefer(1, -1)", x.prefer(1, -1), BAD_VALUE);
        due.is("prefer(1, 10)", x.prefer(1, 10), BAD_VALUE);
        due.is("prefer(2, 10)", x.prefer(2, 10), NO_SUCH);
        due.is("prefer(-1, 0)", x.prefer(-1, 0), NO_SUCH);
        for (int far : FAR) {
            due.is("prefer(0, " + far + ")", x.prefer(0, far), BAD_VALUE);
            due.is("prefer(" + far + ", 1)", x.prefer(far, 1), NO_SUCH);
        }
        due.is("count(3)", x.count(3), 4);
    }

    private static void remove() {
        due.about("promise 8");
        PassingTrack x = new PassingTrack();
        x.shuttle(0, 1, 10, 1, 1);
        x.shuttle(1, 2, 20, 2, 2);
        x.shuttle(2, 3, 30, 3, 3);
        x.shuttle(3, 4, 40, 4, 4);
        due.is("remove(4)", x.remove(4), NO_SUCH);
        due.is("remove(-1)", x.remove(-1), NO_SUCH);
        due.is("remove(1)", x.remove(1), 3);
        for (int what = 0; what < 5; what++) {
            int[][] want = {{0, 1, 10, 1, 1}, {2, 3, 30, 3, 3}, {3, 4, 40, 4, 4}};
            for (int shuttle = 0; shuttle < 3; shuttle++) {
                due.is("ofShuttle(" + shuttle + ", " + what + ")", x.ofShuttle(shuttle, what), want[shuttle][what]);
            }
        }
        due.is("remove(3)", x.remove(3), NO_SUCH);
        due.is("remove(2)", x.remove(2), 2);
        due.is("remove(0)", x.remove(0), 1);
        due.is("ofShuttle(0, 0)", x.ofShuttle(0, 0), 2);
        due.is("remove(0)", x.remove(0), 0);
        due.is("remove(0)", x.remove(0), NO_SUCH);
        due.is("day(0)", x.day(0), 0);
        for (int far : FAR) {
            due.is("remove(" + far + ")", x.remove(far), NO_SUCH);
        }
        for (int number = 0; number < 8; number++) {
            x.shuttle(0, 1, number, 0, 0);
        }
        due.is("remove(7)", x.remove(7), 7);
        due.is("remove(0)", x.remove(0), 6);
        due.is("ofShuttle(5, 2)", x.ofShuttle(5, 2), 6);
    }

    private static void ofShuttle() {
        due.about("promise 9");
        PassingTrack x = new PassingTrack();
        x.running(1, 4);
        x.running(2, 6);
        x.shuttle(4, 1, 5, 3, 8);
        int[] want = {4, 1, 5, 3, 8, 10 + 3 + 6 + 3 + 4, 31, 0, 0, 0, 0, 0, NONE};
        for (int what = 0; what < want.length; what++) {
            due.is("ofShuttle(0, " + what + ")", x.ofShuttle(0, what), want[what]);
        }
        due.is("ofShuttle(0, -1)", x.ofShuttle(0, -1), BAD_VALUE);
        due.is("ofShuttle(0, 13)", x.ofShuttle(0, 13), BAD_VALUE);
        due.is("ofShuttle(1, 13)", x.ofShuttle(1, 13), NO_SUCH);
        due.is("ofShuttle(-1, 0)", x.ofShuttle(-1, 0), NO_SUCH);
        for (int far : FAR) {
            due.is("ofShuttle(" + far + ", 0)", x.ofShuttle(far, 0), NO_SUCH);
            due.is("ofShuttle(0, " + far + ")", x.ofShuttle(0, far), BAD_VALUE);
        }
        x.shuttle(6, 7, 0, 20, 0);
        due.is("one stretch has no stop", x.ofShuttle(1, 5), 10);
        due.is("count(3)", x.count(3), 4);
    }

    private static void ofShuttleWaits() {
        due.about("promise 9, waits");
        PassingTrack x = new PassingTrack();
        // 1 and 2 take the only stretch first; 0 is held up by 1 for 10 minutes, then by 2 for 10.
        x.shuttle(3, 4, 2, 0, 0);
        x.shuttle(4, 3, 0, 0, 0);
        x.shuttle(3, 4, 3, 0, 5);
        int[] want = {30, 18, 18, 8, 10, 0, 2};
        for (int what = 0; what < want.length; what++) {
            due.is("ofShuttle(0, " + (6 + what) + ")", x.ofShuttle(0, 6 + what), want[what]);
        }
        due.is("ofShuttle(2, 8)", x.ofShuttle(2, 8), 7);
        due.is("ofShuttle(2, 12)", x.ofShuttle(2, 12), 1);
        due.is("ofShuttle(1, 12)", x.ofShuttle(1, 12), NONE);
        x.undo();
        x.shuttle(4, 3, 10, 0, 5);
        due.is("10 - 2 minutes for 1, 10 for 2", x.ofShuttle(0, 12), 2);
        x.late(0, 8);
        due.is("ofShuttle(0, 9)", x.ofShuttle(0, 9), 10);
        x.shuttle(4, 3, 20, 0, 5);
        due.is("10 for 2, 10 for 3", x.ofShuttle(0, 12), 2);
        due.is("ofShuttle(0, 9)", x.ofShuttle(0, 9), 20);
    }

    private static void count() {
        due.about("promise 10");
        PassingTrack x = new PassingTrack();
        x.shuttle(0, 1, 0, 0, 0);
        x.first(2);
        for (int station = 0; station < 8; station++) {
            x.tracks(station, 1 + station % 4);
        }
        for (int stretch = 0; stretch < 7; stretch++) {
            x.running(stretch, 11 + stretch);
        }
        x.put(Texts.packed("abc"));
        due.is("count(0)", x.count(0), 1);
        due.is("count(1)", x.count(1), 2);
        due.is("count(2)", x.count(2), 3);
        due.is("count(3)", x.count(3), 6);
        for (int station = 0; station < 8; station++) {
            due.is("count(" + (4 + station) + ")", x.count(4 + station), 1 + station % 4);
        }
        for (int stretch = 0; stretch < 7; stretch++) {
            due.is("count(" + (12 + stretch) + ")", x.count(12 + stretch), 11 + stretch);
        }
        due.is("count(-1)", x.count(-1), BAD_VALUE);
        due.is("count(19)", x.count(19), BAD_VALUE);
        for (int far : FAR) {
            due.is("count(" + far + ")", x.count(far), BAD_VALUE);
        }
    }

    private static void dayOfFew() {
        due.about("promise 11");
        PassingTrack x = new PassingTrack();
        x.shuttle(0, 2, 7, 4, 0);
        due.is("day(0)", x.day(0), 31);
        due.is("day(1)", x.day(1), 0);
        due.is("day(4)", x.day(4), 0);
        due.is("day(5)", x.day(5), 0);
        // The second one starts into the free stretch at once, and waits 4 minutes at station 1.
        x.shuttle(0, 2, 17, 0, 0);
        due.is("day(1)", x.day(1), 4);
        x.late(1, 4);
        due.is("day(1)", x.day(1), 0);
        x.undo();
        x.shuttle(2, 0, 0, 0, 0);
        // It comes to 1 in minute 10, and waits for 0 until 17; 1 has no track at 1 then, and starts in minute 27.
        due.is("day(0)", x.day(0), 47);
        due.is("day(1)", x.day(1), 7 + 10);
        due.is("day(2)", x.day(2), 0);
        due.is("day(3)", x.day(3), 1);
        due.is("day(4)", x.day(4), 17);
        due.is("day(5)", x.day(5), 10);
        due.is("day(-1)", x.day(-1), BAD_VALUE);
        due.is("day(6)", x.day(6), BAD_VALUE);
        for (int far : FAR) {
            due.is("day(" + far + ")", x.day(far), BAD_VALUE);
        }
        due.is("count(3)", x.count(3), 3);
    }

    private static void dayOfStuck() {
        due.about("promise 11, stuck");
        PassingTrack x = new PassingTrack();
        x.tracks(3, 1);
        x.tracks(4, 1);
        // 1 and 2 stand at 3 and 4, and have no track to go to; 0 and 3 go their ways elsewhere.
        x.shuttle(0, 1, 50, 0, 0);
        x.shuttle(2, 6, 0, 0, 0);
        x.shuttle(5, 1, 0, 0, 0);
        x.shuttle(6, 7, 0, 0, 0);
        due.is("day(0)", x.day(0), 60);
        due.is("day(1)", x.day(1), NONE);
        due.is("day(2)", x.day(2), 6);
        due.is("day(3)", x.day(3), 0);
        due.is("day(4)", x.day(4), 51 + 51);
        due.is("day(5)", x.day(5), 0);
        due.is("ofShuttle(0, 7)", x.ofShuttle(0, 7), 0);
        due.is("ofShuttle(1, 6)", x.ofShuttle(1, 6), NONE);
        due.is("ofShuttle(1, 7)", x.ofShuttle(1, 7), NONE);
        due.is("ofShuttle(1, 8)", x.ofShuttle(1, 8), 51);
        due.is("ofShuttle(1, 11)", x.ofShuttle(1, 11), 51);
        due.is("ofShuttle(1, 12)", x.ofShuttle(1, 12), NONE);
        due.is("why(1, 9)", x.why(1, 9), 0);
        due.is("why(1, 10)", x.why(1, 10), 3);
        due.is("why(1, 60)", x.why(1, 60), 3);
        due.is("why(1, 61)", x.why(1, 61), 0);
        due.is("at(1, 9999)", x.at(1, 9999), 6);
        // A late one waits until the other one has come out of the stretch 2 in minute 30.
        x.remove(0);
        x.late(0, 25);
        due.is("day(0) with a late one", x.day(0), 70);
        due.is("day(2) with a late one", x.day(2), 0);
        x.undo();
        // The day ends when the last one has become ready, not ahead of it.
        x.shuttle(2, 6, 33, 0, 0);
        due.is("day(0) with one that cannot start", x.day(0), 33);
        due.is("day(2) with one that cannot start", x.day(2), 11);
        due.is("at(3, 9999)", x.at(3, 9999), 4);
        due.is("ofShuttle(3, 8)", x.ofShuttle(3, 8), 1);
        due.is("when(3, 2, 1)", x.when(3, 2, 1), NONE);
    }

    private static void dayTracks() {
        due.about("the day, tracks");
        PassingTrack x = new PassingTrack();
        x.tracks(1, 1);
        // A track is promised as soon as a shuttle is on its way to it.
        x.shuttle(0, 2, 0, 0, 0);
        x.shuttle(2, 0, 1, 0, 0);
        due.is("why(1, 1)", x.why(1, 1), 3);
        due.is("why(1, 9)", x.why(1, 9), 3);
        due.is("why(1, 10)", x.why(1, 10), 1);
        due.is("when(1, 2, 1)", x.when(1, 2, 1), 20);
        // The one that ends there needs no track, and takes none.
        x.shuttle(2, 1, 2, 0, 0);
        due.is("when(2, 2, 1)", x.when(2, 2, 1), 2);
        due.is("when(0, 1, 1)", x.when(0, 1, 1), 12);
        // One that is outside takes none at the station where it begins.
        x.remove(2);
        x.shuttle(1, 0, 300, 0, 0);
        due.is("when(0, 0, 1)", x.when(0, 0, 1), 0);
        due.is("when(2, 1, 1)", x.when(2, 1, 1), 300);
        // A track that is left is free in the same minute.
        PassingTrack y = new PassingTrack();
        y.tracks(1, 1);
        y.shuttle(0, 2, 0, 5, 0);
        y.shuttle(2, 0, 15, 0, 9);
        y.shuttle(0, 2, 11, 0, 0);
        due.is("when(0, 1, 1)", y.when(0, 1, 1), 15);
        due.is("when(1, 2, 1)", y.when(1, 2, 1), 35);
        due.is("when(2, 0, 1)", y.when(2, 0, 1), 15);
        due.is("why(2, 11)", y.why(2, 11), 3);
    }

    private static void dayWhoGoesFirst() {
        due.about("the day, who goes first");
        PassingTrack x = new PassingTrack();
        // All three want the stretch 2 when 3 comes out of it in minute 30.
        x.running(2, 30);
        x.shuttle(2, 4, 20, 0, 5);
        x.shuttle(2, 3, 10, 0, 5);
        x.shuttle(3, 0, 15, 2, 5);
        x.shuttle(2, 3, 0, 0, 9);
        due.is("by priority, then number: when(0, 2, 1)", x.when(0, 2, 1), 30);
        due.is("by priority, then number: when(1, 2, 1)", x.when(1, 2, 1), 60);
        x.prefer(2, 6);
        due.is("by priority: when(2, 3, 1)", x.when(2, 3, 1), 30);
        due.is("first(1)", x.first(1), 0);
        due.is("by the wait: when(1, 2, 1)", x.when(1, 2, 1), 30);
        due.is("by the wait: when(2, 3, 1)", x.when(2, 3, 1), 60);
        due.is("by the wait: when(0, 2, 1)", x.when(0, 2, 1), 90);
        x.late(1, 10);
        x.prefer(2, 0);
        x.prefer(1, 6);
        x.late(2, 5);
        due.is("all as long: when(1, 2, 1)", x.when(1, 2, 1), 30);
        due.is("all as long: when(0, 2, 1)", x.when(0, 2, 1), 60);
        due.is("all as long: when(2, 3, 1)", x.when(2, 3, 1), 90);
        due.is("first(2)", x.first(2), 1);
        // The ways left: 30 + 10, 30, 30 + 2 + 10 + 2 + 10; the end has no stop.
        due.is("by the way: when(2, 3, 1)", x.when(2, 3, 1), 30);
        due.is("by the way: when(0, 2, 1)", x.when(0, 2, 1), 60);
        due.is("by the way: when(1, 2, 1)", x.when(1, 2, 1), 90);
        wayHasNoStopHere();
    }

    private static void wayHasNoStopHere() {
        PassingTrack x = new PassingTrack();
        x.first(2);
        x.tracks(1, 3);
        // 0 and 2 want the stretch 1 in minute 30: 0 has 10 minutes left, since its stop is behind it.
        x.shuttle(0, 2, 0, 20, 0);
        x.shuttle(2, 0, 20, 0, 0);
        x.shuttle(1, 3, 25, 1, 0);
        due.is("when(1, 2, 1)", x.when(1, 2, 1), 20);
        due.is("when(2, 1, 1)", x.when(2, 1, 1), 30);
        due.is("when(0, 1, 1)", x.when(0, 1, 1), 40);
        x.remove(2);
        x.shuttle(1, 2, 25, 20, 9);
        due.is("its end has no stop, the priority tells: when(2, 1, 1)", x.when(2, 1, 1), 30);
    }

    private static void at() {
        due.about("promise 12");
        PassingTrack x = new PassingTrack();
        x.shuttle(6, 4, 3, 2, 0);
        int[][] want = {{0, 12}, {2, 12}, {3, 11}, {12, 11}, {13, 10}, {14, 10}, {15, 9}, {24, 9}, {25, 8}, {26, 8},
            {9999, 8}};
        for (int[] pair : want) {
            due.is("at(0, " + pair[0] + ")", x.at(0, pair[0]), pair[1]);
        }
        due.is("at(0, -1)", x.at(0, -1), BAD_VALUE);
        due.is("at(0, 10000)", x.at(0, 10000), BAD_VALUE);
        due.is("at(1, -1)", x.at(1, -1), NO_SUCH);
        due.is("at(-1, 0)", x.at(-1, 0), NO_SUCH);
        for (int far : FAR) {
            due.is("at(0, " + far + ")", x.at(0, far), BAD_VALUE);
            due.is("at(" + far + ", 0)", x.at(far, 0), NO_SUCH);
        }
        x.shuttle(0, 3, 0, 0, 0);
        due.is("at(1, 0)", x.at(1, 0), 1);
        due.is("without a stop: at(1, 10)", x.at(1, 10), 3);
        due.is("at(1, 30)", x.at(1, 30), 6);
    }

    private static void when() {
        due.about("promise 13");
        PassingTrack x = new PassingTrack();
        x.shuttle(5, 3, 4, 2, 0);
        due.is("when(0, 5, 0)", x.when(0, 5, 0), NONE);
        due.is("when(0, 5, 1)", x.when(0, 5, 1), 4);
        due.is("when(0, 4, 0)", x.when(0, 4, 0), 14);
        due.is("when(0, 4, 1)", x.when(0, 4, 1), 16);
        due.is("when(0, 3, 0)", x.when(0, 3, 0), 26);
        due.is("when(0, 3, 1)", x.when(0, 3, 1), NONE);
        due.is("when(0, 2, 0)", x.when(0, 2, 0), NONE);
        due.is("when(0, 6, 1)", x.when(0, 6, 1), NONE);
        due.is("when(0, 8, 2)", x.when(0, 8, 2), NO_SUCH);
        due.is("when(0, -1, 0)", x.when(0, -1, 0), NO_SUCH);
        due.is("when(1, 3, 2)", x.when(1, 3, 2), NO_SUCH);
        due.is("when(-1, 3, 0)", x.when(-1, 3, 0), NO_SUCH);
        due.is("when(0, 3, 2)", x.when(0, 3, 2), BAD_VALUE);
        due.is("when(0, 6, -1)", x.when(0, 6, -1), BAD_VALUE);
        for (int far : FAR) {
            due.is("when(" + far + ", 0, 0)", x.when(far, 0, 0), NO_SUCH);
            due.is("when(0, " + far + ", 0)", x.when(0, far, 0), NO_SUCH);
            due.is("when(0, 0, " + far + ")", x.when(0, 0, far), BAD_VALUE);
        }
    }

    private static void why() {
        due.about("promise 14");
        PassingTrack x = new PassingTrack();
        x.tracks(2, 1);
        x.shuttle(1, 4, 0, 5, 9);
        x.shuttle(4, 0, 0, 0, 0);
        x.shuttle(1, 2, 4, 0, 0);
        // 1 comes to station 3 in minute 10, and has no track at 2 until 0 has left it in minute 15.
        int[][] want = {{1, 0, 0}, {1, 9, 0}, {1, 10, 3}, {1, 14, 3}, {1, 15, 1}, {1, 24, 1}, {1, 25, 0}, {2, 3, 0},
            {2, 4, 2}, {2, 9, 2}, {2, 10, 0}, {0, 10, 0}, {0, 14, 0}, {1, 9999, 0}};
        for (int[] row : want) {
            due.is("why(" + row[0] + ", " + row[1] + ")", x.why(row[0], row[1]), row[2]);
        }
        due.is("why(0, -1)", x.why(0, -1), BAD_VALUE);
        due.is("why(0, 10000)", x.why(0, 10000), BAD_VALUE);
        due.is("why(3, 10000)", x.why(3, 10000), NO_SUCH);
        due.is("why(-1, 0)", x.why(-1, 0), NO_SUCH);
        for (int far : FAR) {
            due.is("why(0, " + far + ")", x.why(0, far), BAD_VALUE);
            due.is("why(" + far + ", 0)", x.why(far, 0), NO_SUCH);
        }
    }

    private static void meeting() {
        due.about("promise 15");
        PassingTrack x = new PassingTrack();
        x.shuttle(0, 2, 0, 0, 0);
        x.shuttle(2, 0, 0, 0, 0);
        int[] want = {10, 1, 0, 1};
        for (int what = 0; what < 4; what++) {
            due.is("meeting(0, " + what + ")", x.meeting(0, what), want[what]);
        }
        due.is("meeting(0, -1)", x.meeting(0, -1), BAD_VALUE);
        due.is("meeting(0, 4)", x.meeting(0, 4), BAD_VALUE);
        due.is("meeting(1, 4)", x.meeting(1, 4), NO_SUCH);
        due.is("meeting(-1, 0)", x.meeting(-1, 0), NO_SUCH);
        for (int far : FAR) {
            due.is("meeting(0, " + far + ")", x.meeting(0, far), BAD_VALUE);
            due.is("meeting(" + far + ", 0)", x.meeting(far, 0), NO_SUCH);
        }
        // The first one leaves in the minute in which the other one comes: both are there ahead of step 2.
        x.late(1, 5);
        x.running(0, 15);
        due.is("meeting(0, 0)", x.meeting(0, 0), 15);
        x.late(1, 1);
        due.is("too late, but held up by the stretch", x.meeting(0, 0), 16);
        due.is("day(3)", x.day(3), 1);
        nobodyMeetsOutside();
    }

    private static void nobodyMeetsOutside() {
        PassingTrack x = new PassingTrack();
        // Those that end at 1, begin at 1, or go the same way do not meet there.
        x.shuttle(0, 2, 0, 5, 0);
        x.shuttle(2, 1, 0, 0, 0);
        x.shuttle(1, 0, 12, 0, 0);
        x.shuttle(0, 2, 1, 0, 0);
        due.is("day(3)", x.day(3), 0);
        due.is("meeting(0, 0)", x.meeting(0, 0), NO_SUCH);
    }

    private static void meetingOrder() {
        due.about("promise 15, order");
        PassingTrack x = new PassingTrack();
        x.tracks(5, 4);
        x.shuttle(6, 4, 0, 20, 0);
        x.shuttle(3, 0, 0, 9, 0);
        x.shuttle(1, 3, 0, 9, 0);
        x.shuttle(4, 6, 0, 9, 0);
        x.shuttle(6, 4, 1, 20, 0);
        // In minute 10: 1 and 2 at station 2, 0 and 3 at station 5; 4 comes to 5 in minute 20.
        int[][] want = {{10, 2, 1, 2}, {10, 5, 0, 3}, {20, 5, 3, 4}};
        due.is("day(3)", x.day(3), 3);
        for (int meeting = 0; meeting < 3; meeting++) {
            for (int what = 0; what < 4; what++) {
                due.is("meeting(" + meeting + ", " + what + ")", x.meeting(meeting, what), want[meeting][what]);
            }
        }
        // All four come to station 4, where two go up and two go down.
        PassingTrack y = new PassingTrack();
        y.tracks(4, 4);
        y.running(3, 1);
        y.running(4, 1);
        y.shuttle(5, 0, 0, 20, 0);
        y.shuttle(3, 7, 0, 20, 0);
        y.shuttle(3, 7, 0, 20, 0);
        y.shuttle(5, 0, 0, 20, 0);
        int[][] four = {{1, 4, 0, 1}, {2, 4, 0, 2}, {2, 4, 1, 3}, {2, 4, 2, 3}};
        due.is("day(3)", y.day(3), 4);
        for (int meeting = 0; meeting < 4; meeting++) {
            for (int what = 0; what < 4; what++) {
                due.is("meeting(" + meeting + ", " + what + ")", y.meeting(meeting, what), four[meeting][what]);
            }
        }
    }

    private static void delayIfLate() {
        due.about("promise 16");
        PassingTrack x = new PassingTrack();
        x.shuttle(0, 1, 0, 0, 0);
        x.shuttle(1, 0, 0, 0, 0);
        due.is("day(1)", x.day(1), 10);
        due.is("delayIfLate(1, 4)", x.delayIfLate(1, 4), 6);
        due.is("delayIfLate(1, 10)", x.delayIfLate(1, 10), 0);
        due.is("delayIfLate(0, 1)", x.delayIfLate(0, 1), 9);
        due.is("delayIfLate(0, 300)", x.delayIfLate(0, 300), 0);
        due.is("delayIfLate(0, 0)", x.delayIfLate(0, 0), BAD_VALUE);
        due.is("delayIfLate(0, 301)", x.delayIfLate(0, 301), BAD_VALUE);
        due.is("delayIfLate(2, 0)", x.delayIfLate(2, 0), NO_SUCH);
        due.is("delayIfLate(-1, 1)", x.delayIfLate(-1, 1), NO_SUCH);
        for (int far : FAR) {
            due.is("delayIfLate(0, " + far + ")", x.delayIfLate(0, far), BAD_VALUE);
            due.is("delayIfLate(" + far + ", 1)", x.delayIfLate(far, 1), NO_SUCH);
        }
        due.is("nothing is changed: day(1)", x.day(1), 10);
        due.is("nothing is changed: ofShuttle(1, 2)", x.ofShuttle(1, 2), 0);
        due.is("count(3)", x.count(3), 2);
        x.late(0, 300);
        due.is("above 300", x.delayIfLate(0, 1), BAD_VALUE);
        PassingTrack stuck = stuckFour();
        due.is("stuck", stuck.delayIfLate(0, 1), NONE);
        due.is("one that starts late does not help", stuck.delayIfLate(0, 200), NONE);
    }

    private static PassingTrack stuckFour() {
        PassingTrack x = new PassingTrack();
        x.tracks(3, 1);
        x.tracks(4, 1);
        x.shuttle(2, 5, 0, 0, 0);
        x.shuttle(2, 5, 0, 0, 0);
        x.shuttle(5, 2, 0, 0, 0);
        x.shuttle(5, 2, 0, 0, 0);
        return x;
    }

    private static void delayIfSlow() {
        due.about("promise 17");
        PassingTrack x = new PassingTrack();
        x.shuttle(0, 1, 0, 0, 0);
        x.shuttle(1, 0, 0, 0, 0);
        due.is("delayIfSlow(0, 30)", x.delayIfSlow(0, 30), 30);
        due.is("delayIfSlow(0, 1)", x.delayIfSlow(0, 1), 1);
        due.is("delayIfSlow(1, 30)", x.delayIfSlow(1, 30), 10);
        due.is("delayIfSlow(0, 0)", x.delayIfSlow(0, 0), BAD_VALUE);
        due.is("delayIfSlow(6, 31)", x.delayIfSlow(6, 31), BAD_VALUE);
        due.is("delayIfSlow(7, 31)", x.delayIfSlow(7, 31), NO_SUCH);
        due.is("delayIfSlow(-1, 1)", x.delayIfSlow(-1, 1), NO_SUCH);
        for (int far : FAR) {
            due.is("delayIfSlow(0, " + far + ")", x.delayIfSlow(0, far), BAD_VALUE);
            due.is("delayIfSlow(" + far + ", 1)", x.delayIfSlow(far, 1), NO_SUCH);
        }
        due.is("nothing is changed: count(12)", x.count(12), 10);
        due.is("nothing is changed: count(3)", x.count(3), 2);
        due.is("nothing is changed: day(1)", x.day(1), 10);
        due.is("stuck", stuckFour().delayIfSlow(0, 5), NONE);
    }

    private static void bestTrack() {
        due.about("promise 18");
        PassingTrack x = new PassingTrack();
        due.is("without shuttles: bestTrack(0)", x.bestTrack(0), 0);
        due.is("without shuttles: bestTrack(1)", x.bestTrack(1), 0);
        x.tracks(0, 4);
        due.is("0 does not count", x.bestTrack(0), 1);
        x.tracks(2, 1);
        // 0 stands at 2, and 1 waits for its track there.
        x.shuttle(1, 3, 0, 20, 0);
        x.shuttle(1, 3, 10, 20, 0);
        due.is("day(1)", x.day(1), 20);
        due.is("bestTrack(0)", x.bestTrack(0), 2);
        due.is("bestTrack(1)", x.bestTrack(1), 0);
        due.is("bestTrack(-1)", x.bestTrack(-1), BAD_VALUE);
        due.is("bestTrack(2)", x.bestTrack(2), BAD_VALUE);
        for (int far : FAR) {
            due.is("bestTrack(" + far + ")", x.bestTrack(far), BAD_VALUE);
        }
        due.is("nothing is changed: count(6)", x.count(6), 1);
        due.is("nothing is changed: day(1)", x.day(1), 20);
        due.is("nothing is changed: count(3)", x.count(3), 4);
        for (int station = 0; station < 8; station++) {
            x.tracks(station, 4);
        }
        due.is("no station counts: bestTrack(0)", x.bestTrack(0), NONE);
        due.is("no station counts: bestTrack(1)", x.bestTrack(1), NONE);
        due.is("no station counts: bestTrack(2)", x.bestTrack(2), BAD_VALUE);
        PassingTrack stuck = stuckFour();
        // With one more at 3, 1 goes there too in minute 10, and nobody can come through.
        due.is("bestTrack(0)", stuck.bestTrack(0), 4);
        int delay = stuck.bestTrack(1);
        stuck.tracks(4, 2);
        due.is("bestTrack(1) as with that track", delay, stuck.day(1));
        // Two pairs that block one another at two places.
        PassingTrack twice = new PassingTrack();
        for (int from = 0; from <= 4; from += 4) {
            twice.tracks(from + 1, 1);
            twice.tracks(from + 2, 1);
            twice.shuttle(from, from + 3, 0, 0, 0);
            twice.shuttle(from + 3, from, 0, 0, 0);
        }
        due.is("day(2)", twice.day(2), 15);
        due.is("no one track helps: bestTrack(0)", twice.bestTrack(0), NONE);
        due.is("no one track helps: bestTrack(1)", twice.bestTrack(1), NONE);
    }

    private static void bestOrder() {
        due.about("promise 19");
        PassingTrack x = new PassingTrack();
        due.is("without shuttles: bestOrder(0)", x.bestOrder(0), 0);
        due.is("without shuttles: bestOrder(1)", x.bestOrder(1), BAD_VALUE);
        x.running(0, 30);
        x.running(1, 1);
        x.first(2);
        x.shuttle(0, 1, 0, 0, 9);
        x.shuttle(1, 0, 0, 0, 4);
        x.shuttle(2, 0, 0, 0, 5);
        due.is("bestOrder(0)", x.bestOrder(0), 30 + 59);
        int[] want = {0, 1, 2};
        for (int place = 1; place <= 3; place++) {
            due.is("bestOrder(" + place + ")", x.bestOrder(place), want[place - 1]);
        }
        due.is("bestOrder(-1)", x.bestOrder(-1), BAD_VALUE);
        due.is("bestOrder(4)", x.bestOrder(4), BAD_VALUE);
        for (int far : FAR) {
            due.is("bestOrder(" + far + ")", x.bestOrder(far), BAD_VALUE);
        }
        due.is("nothing is changed: count(1)", x.count(1), 2);
        due.is("nothing is changed: ofShuttle(0, 4)", x.ofShuttle(0, 4), 9);
        due.is("nothing is changed: count(3)", x.count(3), 6);
        for (int number = 3; number < 6; number++) {
            x.shuttle(6, 7, 300, 0, 0);
        }
        due.is("six: bestOrder(7)", x.bestOrder(7), BAD_VALUE);
        due.is("six: bestOrder(6)", x.bestOrder(6), NOT_POSSIBLE);
        due.is("six: bestOrder(0)", x.bestOrder(0), NOT_POSSIBLE);
        due.is("six: bestOrder(-1)", x.bestOrder(-1), BAD_VALUE);
        x.remove(5);
        due.is("five: bestOrder(6)", x.bestOrder(6), BAD_VALUE);
        due.is("five: bestOrder(5)", x.bestOrder(5), 4);
        due.is("stuck: bestOrder(0)", stuckFour().bestOrder(0), NONE);
        due.is("stuck: bestOrder(4)", stuckFour().bestOrder(4), NONE);
        due.is("stuck: bestOrder(5)", stuckFour().bestOrder(5), BAD_VALUE);
    }

    private static void bestOrderOfSeveral() {
        due.about("promise 19, the best one");
        PassingTrack x = new PassingTrack();
        x.running(1, 30);
        // If 1 goes first, it has left the stretch 1 when 2 starts; if 0 does, 2 waits 10 minutes, too.
        x.shuttle(0, 1, 0, 0, 9);
        x.shuttle(0, 2, 0, 0, 0);
        x.shuttle(2, 1, 40, 0, 0);
        due.is("day(1)", x.day(1), 20);
        int[] best = {10, 1, 0, 2};
        for (int place = 0; place <= 3; place++) {
            due.is("bestOrder(" + place + ")", x.bestOrder(place), best[place]);
        }
        // With FIRST as 1, 0 would go ahead of 1 in each order, since it is ready in minute 1.
        x.late(0, 1);
        x.late(1, 2);
        x.late(2, 10);
        x.shuttle(1, 0, 0, 0, 0);
        x.first(1);
        due.is("with FIRST as 1: day(1)", x.day(1), 9 + 18 + 10);
        int[] bestWithFirst = {8 + 19, 1, 0, 2, 3};
        for (int place = 0; place <= 4; place++) {
            due.is("with FIRST as 0: bestOrder(" + place + ")", x.bestOrder(place), bestWithFirst[place]);
        }
        PassingTrack y = new PassingTrack();
        y.shuttle(6, 7, 0, 0, 0);
        y.shuttle(1, 0, 0, 0, 0);
        y.shuttle(1, 2, 0, 0, 0);
        due.is("all orders are the same: bestOrder(0)", y.bestOrder(0), 0);
        due.is("the first one: bestOrder(1)", y.bestOrder(1), 0);
        due.is("the first one: bestOrder(2)", y.bestOrder(2), 1);
        due.is("the first one: bestOrder(3)", y.bestOrder(3), 2);
        PassingTrack z = new PassingTrack();
        // Whoever goes second waits 31 minutes.
        z.running(0, 1);
        z.running(1, 30);
        z.tracks(1, 1);
        z.shuttle(2, 0, 0, 0, 0);
        z.shuttle(0, 2, 0, 0, 0);
        due.is("bestOrder(0)", z.bestOrder(0), 31);
        due.is("bestOrder(1)", z.bestOrder(1), 0);
    }

    private static void put() {
        due.about("promise 20");
        PassingTrack x = new PassingTrack();
        due.is("put(0)", x.put(0L), BAD_VALUE);
        due.is("put of a sign 32", x.put(32L), BAD_VALUE);
        due.is("put of a sign 127", x.put(127L), BAD_VALUE);
        due.is("put of 33", x.put(33L), 1);
        due.is("put of 126", x.put(126L), 2);
        due.is("put of 0 behind a sign", x.put(97L << 8), BAD_VALUE);
        due.is("put of 0 between signs", x.put(97L << 16 | 97L), BAD_VALUE);
        due.is("put of 0 far below a bit", x.put(1L << 63 | 97L), BAD_VALUE);
        due.is("put of a wrong sign above", x.put(32L << 8 | 97L), BAD_VALUE);
        due.is("put of a negative number", x.put(-1L), BAD_VALUE);
        due.is("put of a highest code above 126", x.put(128L << 56 | Texts.packed("aaaaaaa")), BAD_VALUE);
        due.is("put of the lowest long", x.put(Long.MIN_VALUE), BAD_VALUE);
        due.is("count(2)", x.count(2), 2);
        due.is("wipe()", x.wipe(), 2);
        due.is("put of 8", x.put(Texts.packed("~~~~~~~~")), 8);
        for (int length = 16; length <= 72; length += 8) {
            due.is("put of 8", x.put(Texts.packed("!!!!!!!!")), length);
        }
        due.is("put of 7", x.put(Texts.packed("1234567")), 79);
        due.is("put of 2", x.put(Texts.packed("12")), TOO_MANY);
        due.is("put of 2 with a wrong one", x.put(Texts.packed("1\n")), BAD_VALUE);
        due.is("put of 1", x.put(Texts.packed("1")), 80);
        due.is("put of 1", x.put(Texts.packed("1")), TOO_MANY);
        due.is("put of 0", x.put(0L), BAD_VALUE);
        due.is("count(2)", x.count(2), 80);
        due.is("put is no change", x.count(3), 0);
        // The order of the characters.
        x.wipe();
        x.put(Texts.packed("t3="));
        x.put(Texts.packed("4"));
        due.is("carryOut()", x.carryOut(), 1);
        due.is("count(7)", x.count(7), 4);
    }

    private static void wipe() {
        due.about("promise 21");
        PassingTrack x = new PassingTrack();
        due.is("wipe()", x.wipe(), 0);
        x.put(Texts.packed("x0"));
        due.is("wipe()", x.wipe(), 2);
        due.is("wipe()", x.wipe(), 0);
        due.is("fault()", x.fault(), 0);
        due.is("count(2)", x.count(2), 0);
        due.is("wipe is no change", x.count(3), 0);
        Texts.putAll(x, "r0=3");
        due.is("carryOut()", x.carryOut(), 1);
    }

    private static void fault() {
        due.about("promise 22");
        faultOf("", 0);
        faultOf("s0>7@0", NONE);
        faultOf("s7>0@300+20^9", NONE);
        faultOf("s3>3@0^0", NONE);
        faultOf("l7+0;t7=999;r6=0;p7=9;x7", NONE);
        faultOf("a", 0);
        faultOf(";x0", 0);
        faultOf("x0;", 3);
        faultOf("x0;;x0", 3);
        faultOf("x0x0", 2);
        faultOf("x8", 1);
        faultOf("x", 1);
        faultOf("x00", 2);
        faultOf("s", 1);
        faultOf("s8", 1);
        faultOf("s0", 2);
        faultOf("s0<", 2);
        faultOf("s0>", 3);
        faultOf("s0>8", 3);
        faultOf("s0>7", 4);
        faultOf("s0>7+", 4);
        faultOf("s0>7@", 5);
        faultOf("s0>7@+", 5);
        faultOf("s0>7@1+", 7);
        faultOf("s0>7@1+^", 7);
        faultOf("s0>7@1^", 7);
        faultOf("s0>7@1^a", 7);
        faultOf("s0>7@1^:", 7);
        faultOf("s0>7@1^12", 8);
        faultOf("s0>7@1^1+1", 8);
        faultOf("s0>7@1+1+1", 8);
        faultOf("s0>7@1^1^1", 8);
        faultOf("s0>7@1+1^1;", 11);
        faultOf("s0>7@1=", 6);
        faultOf("l8+1", 1);
        faultOf("l0=1", 2);
        faultOf("l0+a", 3);
        faultOf("l0+", 3);
        faultOf("l0+1^1", 4);
        faultOf("t8=1", 1);
        faultOf("t0+1", 2);
        faultOf("t0=;", 3);
        faultOf("r7=1", 1);
        faultOf("r0+1", 2);
        faultOf("r0=/", 3);
        faultOf("p8=1", 1);
        faultOf("p0+1", 2);
        faultOf("p0=:", 3);
        faultOf("p0=10", 4);
        faultOf("x0;x1;x2;x3;x4;x5;x6;x7;x0;x0;x0;x0;x0;x0;x0;x0;x0;x0;x0;x0;x0;x0;x0;x0;x0;x0;x0", NONE);
        faultOf("x0;x1;x2;x3;x4;x5;x6;x7;x0;x0;x0;x0;x0;x0;x0;x0;x0;x0;x0;x0;x0;x0;x0;x0;x0;s0>1@", 80);
    }

    private static void faultOfNumbers() {
        due.about("promise 22, numbers");
        faultOf("l0+0", NONE);
        faultOf("l0+00", 4);
        faultOf("l0+01", 4);
        faultOf("l0+10", NONE);
        faultOf("l0+100", NONE);
        faultOf("l0+999", NONE);
        faultOf("l0+1000", 6);
        faultOf("l0+9990", 6);
        faultOf("l0+-1", 3);
        faultOf("l0+:", 3);
        faultOf("l0+1:", 4);
        faultOf("l0+/", 3);
        faultOf("s0>7@05", 6);
        faultOf("s0>7@1000+1", 8);
        faultOf("s0>7@0+00", 8);
        faultOf("s0>7@0+1000", 10);
        faultOf("s0>7@999+999^9", NONE);
        faultOf("t0=1000", 6);
        faultOf("r0=02", 4);
    }

    private static void carryOut() {
        due.about("promise 23");
        PassingTrack x = new PassingTrack();
        Texts.putAll(x, "s1>6@12+3^4;s6>1@300;s2>3@0^9;s3>2@7+20");
        due.is("carryOut()", x.carryOut(), 4);
        due.is("count(2)", x.count(2), 0);
        due.is("count(3)", x.count(3), 1);
        int[][] want = {{1, 6, 12, 3, 4}, {6, 1, 300, 0, 0}, {2, 3, 0, 0, 9}, {3, 2, 7, 20, 0}};
        for (int shuttle = 0; shuttle < 4; shuttle++) {
            for (int what = 0; what < 5; what++) {
                due.is("ofShuttle(" + shuttle + ", " + what + ")", x.ofShuttle(shuttle, what), want[shuttle][what]);
            }
        }
        Texts.putAll(x, "l0+30;p1=7;t4=3;r5=12;x2");
        due.is("carryOut()", x.carryOut(), 5);
        due.is("ofShuttle(0, 2)", x.ofShuttle(0, 2), 42);
        due.is("ofShuttle(1, 4)", x.ofShuttle(1, 4), 7);
        due.is("count(8)", x.count(8), 3);
        due.is("count(17)", x.count(17), 12);
        due.is("count(0)", x.count(0), 3);
        due.is("ofShuttle(2, 0)", x.ofShuttle(2, 0), 3);
        due.is("count(3)", x.count(3), 2);
        due.is("undo()", x.undo(), 1);
        due.is("all of them are undone", x.count(0), 4);
        due.is("all of them are undone", x.ofShuttle(0, 2), 12);
        due.is("all of them are undone", x.count(17), 10);
    }

    private static void carryOutErrors() {
        due.about("promise 23, errors");
        PassingTrack x = new PassingTrack();
        due.is("carryOut() of nothing", x.carryOut(), BAD_TEXT);
        Texts.putAll(x, "x0");
        due.is("none is carried out", x.carryOut(), 0);
        due.is("but it is a change", x.count(3), 1);
        due.is("and the pad is empty", x.count(2), 0);
        Texts.putAll(x, "t0=3;t1=5;t2=3");
        due.is("up to the first error", x.carryOut(), 1);
        due.is("count(4)", x.count(4), 3);
        due.is("count(5)", x.count(5), 2);
        due.is("count(6)", x.count(6), 2);
        due.is("the pad is empty", x.count(2), 0);
        due.is("count(3)", x.count(3), 2);
        Texts.putAll(x, "t0=1;t1=1;");
        due.is("a fault", x.carryOut(), BAD_TEXT);
        due.is("the pad stays", x.count(2), 10);
        due.is("nothing is carried out", x.count(4), 3);
        due.is("count(3)", x.count(3), 2);
        Texts.putAll(x, "x0");
        due.is("carryOut()", x.carryOut(), 2);
        due.is("undo()", x.undo(), 2);
        due.is("count(4)", x.count(4), 3);
        due.is("the pad is not given back", x.count(2), 0);
        String[] wrong = {"s0>0@0", "s0>1@301", "s0>1@0+21", "l0+1", "l0+0", "t0=0", "t0=5", "r0=0", "r0=31", "p0=1"};
        for (String text : wrong) {
            Texts.putAll(x, text + ";r6=1");
            due.is("carryOut() of " + text, x.carryOut(), 0);
            due.is("count(18)", x.count(18), 10);
        }
        for (int number = 0; number < 8; number++) {
            x.shuttle(0, 1, 0, 0, 0);
        }
        Texts.putAll(x, "x7;s0>1@300;s0>1@300;r6=1");
        due.is("a ninth shuttle", x.carryOut(), 2);
        due.is("ofShuttle(7, 2)", x.ofShuttle(7, 2), 300);
    }

    private static void undo() {
        due.about("promise 24");
        PassingTrack x = new PassingTrack();
        due.is("undo()", x.undo(), NOT_POSSIBLE);
        x.first(2);
        x.tracks(0, 3);
        x.running(0, 3);
        x.shuttle(0, 3, 10, 3, 3);
        x.late(0, 5);
        x.prefer(0, 4);
        due.is("count(3)", x.count(3), 6);
        x.put(Texts.packed("x0"));
        x.save(0);
        x.day(0);
        x.bestOrder(0);
        due.is("count(3)", x.count(3), 6);
        x.remove(0);
        due.is("count(3)", x.count(3), 6);
        due.is("undo()", x.undo(), 5);
        due.is("remove is undone", x.ofShuttle(0, 4), 4);
        due.is("undo()", x.undo(), 4);
        due.is("prefer is undone", x.ofShuttle(0, 4), 3);
        due.is("undo()", x.undo(), 3);
        due.is("late is undone", x.ofShuttle(0, 2), 10);
        due.is("undo()", x.undo(), 2);
        due.is("shuttle is undone", x.count(0), 0);
        due.is("undo()", x.undo(), 1);
        due.is("running is undone", x.count(12), 10);
        due.is("undo()", x.undo(), 0);
        due.is("tracks is undone", x.count(4), 2);
        due.is("first was dropped", x.undo(), NOT_POSSIBLE);
        due.is("count(1)", x.count(1), 2);
        due.is("the pad stays", x.count(2), 2);
        due.is("the slot stays", x.restore(0), 1);
        due.is("ofShuttle(0, 2)", x.ofShuttle(0, 2), 15);
        due.is("restore is undone", x.undo(), 0);
        due.is("count(0)", x.count(0), 0);
        due.is("a change that changes nothing", x.first(2), 2);
        due.is("count(3)", x.count(3), 1);
        due.is("undo()", x.undo(), 0);
        due.is("undo is no change", x.undo(), NOT_POSSIBLE);
        for (int i = 0; i < 20; i++) {
            x.running(6, i + 1);
        }
        for (int i = 0; i < 6; i++) {
            due.is("undo()", x.undo(), 5 - i);
            due.is("count(18)", x.count(18), 19 - i);
        }
        due.is("undo()", x.undo(), NOT_POSSIBLE);
    }

    private static void save() {
        due.about("promise 25");
        PassingTrack x = new PassingTrack();
        due.is("save(0)", x.save(0), 0);
        x.shuttle(0, 7, 0, 0, 0);
        due.is("save(1)", x.save(1), 1);
        x.shuttle(0, 7, 0, 0, 0);
        x.put(Texts.packed("ab"));
        due.is("save is no change", x.count(3), 2);
        due.is("save(-1)", x.save(-1), BAD_VALUE);
        due.is("save(2)", x.save(2), BAD_VALUE);
        for (int far : FAR) {
            due.is("save(" + far + ")", x.save(far), BAD_VALUE);
        }
        due.is("restore(0)", x.restore(0), 0);
        due.is("restore(1)", x.restore(1), 1);
        due.is("the pad is not saved", x.count(2), 2);
        x.first(1);
        due.is("save(1) again", x.save(1), 1);
        x.first(0);
        x.restore(1);
        due.is("overwritten: count(1)", x.count(1), 1);
        due.is("the history is not saved", x.count(3), 6);
    }

    private static void restore() {
        due.about("promise 26");
        PassingTrack x = new PassingTrack();
        due.is("restore(0)", x.restore(0), NOT_POSSIBLE);
        due.is("restore(-1)", x.restore(-1), BAD_VALUE);
        due.is("restore(2)", x.restore(2), BAD_VALUE);
        for (int far : FAR) {
            due.is("restore(" + far + ")", x.restore(far), BAD_VALUE);
        }
        due.is("count(3)", x.count(3), 0);
        x.first(2);
        x.tracks(7, 4);
        x.running(6, 30);
        x.shuttle(5, 2, 30, 4, 6);
        x.shuttle(7, 0, 10, 2, 1);
        x.save(1);
        due.is("restore(0)", x.restore(0), NOT_POSSIBLE);
        x.first(0);
        x.tracks(7, 1);
        x.running(6, 1);
        x.late(0, 1);
        x.remove(1);
        x.put(Texts.packed("x"));
        due.is("restore(1)", x.restore(1), 2);
        int[] want = {5, 2, 30, 4, 6};
        for (int what = 0; what < 5; what++) {
            due.is("ofShuttle(0, " + what + ")", x.ofShuttle(0, what), want[what]);
        }
        due.is("count(1)", x.count(1), 2);
        due.is("count(2)", x.count(2), 1);
        due.is("count(11)", x.count(11), 4);
        due.is("count(18)", x.count(18), 30);
        due.is("count(3)", x.count(3), 6);
        x.remove(0);
        due.is("the slot keeps it: restore(1)", x.restore(1), 2);
        due.is("undo()", x.undo(), 5);
        due.is("count(0)", x.count(0), 1);
        due.is("undo()", x.undo(), 4);
        due.is("undo()", x.undo(), 3);
        due.is("behind undo of restore: count(18)", x.count(18), 1);
        due.is("the slot keeps it: restore(1)", x.restore(1), 2);
    }

    /** After each call with an error, the line, the pad and the history are as they were. */
    private static void errorsChangeNothing() {
        due.about("errors");
        PassingTrack x = new PassingTrack();
        x.shuttle(2, 4, 5, 6, 7);
        x.put(Texts.packed("y"));
        int[] errors = {x.first(3), x.tracks(0, 5), x.tracks(8, 1), x.running(7, 1), x.running(0, 31),
            x.shuttle(0, 0, 0, 0, 0), x.late(0, 296), x.late(1, 1), x.prefer(0, 10), x.prefer(1, 0), x.remove(1),
            x.put(0), x.carryOut(), x.save(2), x.restore(0), x.restore(2)};
        int[] want = {BAD_VALUE, BAD_VALUE, NO_SUCH, NO_SUCH, BAD_VALUE, BAD_VALUE, BAD_VALUE, NO_SUCH, BAD_VALUE,
            NO_SUCH, NO_SUCH, BAD_VALUE, BAD_TEXT, BAD_VALUE, NOT_POSSIBLE, BAD_VALUE};
        for (int i = 0; i < errors.length; i++) {
            due.is("error " + i, errors[i], want[i]);
        }
        due.is("count(3)", x.count(3), 1);
        due.is("count(2)", x.count(2), 1);
        int[] shuttle = {2, 4, 5, 6, 7};
        for (int what = 0; what < 5; what++) {
            due.is("ofShuttle(0, " + what + ")", x.ofShuttle(0, what), shuttle[what]);
        }
        due.is("undo()", x.undo(), 0);
        isDefaultLine(x);
    }
}
