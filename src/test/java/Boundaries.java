import java.util.function.IntUnaryOperator;

/** What the groups of boundary tests share. */
abstract class Boundaries {
    static final int NO_SUCH = -1, BAD_VALUE = -2, BAD_TEXT = -3, TOO_MANY = -4, NOT_POSSIBLE = -5, NONE = -6;

    final Due due;
    final Sentences says;

    Boundaries(Due due, Sentences says) {
        this.due = due;
        this.says = says;
    }

    abstract void all();

    /** The value just below a range and the one just above it, and the farthest ones, give an error; its smallest and its largest do not. */
    void range(String call, IntUnaryOperator answer, int low, int high, int error) {
        refuses(call, answer, error, Integer.MIN_VALUE, low - 1, high + 1, Integer.MAX_VALUE);
        takes(call, answer, low, high);
    }

    void refuses(String call, IntUnaryOperator answer, int error, int... values) {
        for (int value : values) {
            due.is(call + " with " + value, answer.applyAsInt(value), error);
        }
    }

    void takes(String call, IntUnaryOperator answer, int... values) {
        for (int value : values) {
            int got = answer.applyAsInt(value);
            due.holds(call + " with " + value + " is no error: " + got, got >= 0 || got == NONE);
        }
    }

    /** What a call answers for 0, 1 and on. */
    void row(String call, IntUnaryOperator answer, int... want) {
        for (int value = 0; value < want.length; value++) {
            due.is(call + " with " + value, answer.applyAsInt(value), want[value]);
        }
    }

    /** What a shuttle was made with: where it begins and ends, its earliest minute, stop and priority. */
    void madeWith(PassingTrack x, int shuttle, int... want) {
        row("ofShuttle(" + shuttle + ", .)", what -> x.ofShuttle(shuttle, what), want);
    }

    /** A line with one shuttle, which nobody disturbs. */
    static PassingTrack one(int begin, int end, int earliest, int stop) {
        PassingTrack x = new PassingTrack();
        x.shuttle(begin, end, earliest, stop, 0);
        return x;
    }

    static void many(PassingTrack x, int number, int begin, int end) {
        for (int i = 0; i < number; i++) {
            x.shuttle(begin, end, 0, 0, 0);
        }
    }

    /** 0 stands at station 3, and 1 at 4, from minute 10 on; each wants the only track of the other one. */
    static PassingTrack twoStuck() {
        PassingTrack x = new PassingTrack();
        x.tracks(3, 1);
        x.tracks(4, 1);
        x.shuttle(2, 5, 0, 0, 0);
        x.shuttle(5, 2, 0, 0, 0);
        return x;
    }
}
