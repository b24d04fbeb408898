/** Promises 1 to 3 at their edges; RefusedTest has what is left behind by a refused call. */
public final class PlaceEdgesTest {
    public static void main(String[] args) {
        emptyAnswers();
        emptyRefuses();
        emptyWithPlacesOnly();
        leastAndMostOfPlace();
        belowAndAboveOfPlace();
        fivePlacesAndNoSixth();
        leastAndMostOfChange();
        belowAndAboveOfChange();
        numbersThatCanBeChanged();
        Due.end();
    }

    /** "No PLACES, no ASKS." */
    private static void emptyAnswers() {
        for (int what = 0; what <= 4; what++) {
            int w = what;
            Due.answer("1: count " + what + " of nothing", 0, () -> new QueueReader().count(w));
        }
        Due.answer("1: count -1 of nothing", -1, () -> new QueueReader().count(-1));
        Due.answer("1: count 5 of nothing", -1, () -> new QueueReader().count(5));
        Due.answer("1: total of nothing", 0, () -> new QueueReader().total());
        Due.answer("1: narrow of nothing", -1, () -> new QueueReader().narrow());
        Due.answer("1: trace of nothing", 0, () -> new QueueReader().trace());
        Due.answer("1: unlike of nothing", 0, () -> new QueueReader().unlike());
        Due.answer("1: the first place", 0, () -> new QueueReader().place(1, 0, 0));
    }

    private static void emptyRefuses() {
        Due.noIndex("1: change", () -> Calls.change(new QueueReader(), 0, 1, 0, 0));
        Due.noIndex("1: ask", () -> new QueueReader().ask(0, 0, 0, 1));
        Due.noIndex("1: step", () -> new QueueReader().step(0, 0, 1));
        Due.noIndex("1: seen", () -> Calls.seen(new QueueReader(), 0, 0, 0, 1));
        Due.noIndex("1: unsee", () -> Calls.unsee(new QueueReader(), 0, 0));
        for (int what = 0; what <= 2; what++) {
            int w = what;
            Due.noIndex("1: played " + what, () -> new QueueReader().played(0, 0, w));
        }
        Due.noIndex("1: found", () -> new QueueReader().found(0, false));
        Due.noIndex("1: found, the rule", () -> new QueueReader().found(0, true));
        Due.noIndex("1: overlap", () -> new QueueReader().overlap(0));
        for (int what = 0; what <= 3; what++) {
            int w = what;
            Due.noIndex("1: counts by play " + what, () -> new QueueReader().counts(0, false, 0, 1, w));
            Due.noIndex("1: counts by tracks " + what, () -> new QueueReader().counts(0, true, 0, 1, w));
        }
        Due.noIndex("1: saved", () -> new QueueReader().saved(0));
        Due.noIndex("1: alone", () -> new QueueReader().alone(0));
    }

    /** Places without asks: what asks for an ask is refused, what asks for a place is not. */
    private static void emptyWithPlacesOnly() {
        QueueReader x = new QueueReader();
        x.place(1, 0, 0);
        Due.answer("1: count of places", 1, () -> x.count(0));
        for (int what = 1; what <= 4; what++) {
            int w = what;
            Due.answer("1: a place, no asks: count " + what, 0, () -> x.count(w));
        }
        Due.noIndex("1: a place, no asks: step", () -> x.step(0, 0, 1));
        Due.noIndex("1: a place, no asks: seen", () -> Calls.seen(x, 0, 0, 0, 1));
        Due.noIndex("1: a place, no asks: unsee", () -> Calls.unsee(x, 0, 0));
        Due.noIndex("1: a place, no asks: played", () -> x.played(0, 0, 0));
        Due.noIndex("1: a place, no asks: alone", () -> x.alone(0));
        Due.answer("1: a place, no asks: found", -1, () -> x.found(0, false));
        Due.answer("1: a place, no asks: found, the rule", -1, () -> x.found(0, true));
        Due.answer("1: a place, no asks: overlap", 0, () -> x.overlap(0));
        for (int what = 0; what <= 3; what++) {
            int w = what;
            Due.answer("1: a place, no asks: counts " + what, 0, () -> x.counts(0, false, 0, 10000000, w));
            Due.answer("1: a place, no asks: tracks " + what, 0, () -> x.counts(0, true, 0, 10000000, w));
        }
        Due.answer("1: a place, no asks: total", 0, x::total);
        Due.answer("1: a place, no asks: saved", 0, () -> x.saved(0));
        Due.answer("1: a place, no asks: narrow", 0, x::narrow);
        Due.answer("1: a place, no asks: trace", 0, x::trace);
        Due.answer("1: a place, no asks: unlike", 0, x::unlike);
    }

    /**
     * Whether place 0, to which nobody has gone yet, has these numbers. The helpers are all busy
     * from 0 on, one of them is free at 10, and by each rule another one is begun then.
     */
    private static void hasNumbers(String about, QueueReader x, int helpers, int rule, int delay) {
        for (int i = 0; i < helpers; i++) {
            x.ask(0, 0, 0, i == 0 ? 10 : 1000);
        }
        x.ask(2, 1, 0, 7);
        x.ask(2, 4, 0, 8);
        x.ask(2, 2, 0, 5);
        x.ask(1, 3, 0, 6);
        int far = x.ask(0, 100000, 0, 1);
        x.step(far, 0, 1);
        Due.answer(about + ": as many are helped at once", 0, () -> x.played(helpers - 1, 0, 1));
        for (int i = 0; i <= 3; i++) {
            int waits = helpers + i;
            Due.truth(about + ": begun at 10, or behind it, by the rule: " + i,
                    i == rule ? x.played(waits, 0, 1) == 10 : x.played(waits, 0, 1) > 10);
        }
        Due.answer(about + ": the delay", 100001 + delay, () -> x.played(far, 1, 0));
    }

    /** "HELPERS (1 to 8), a RULE (0 to 3), DELAY (0 to 1000 ticks)": what is allowed. */
    private static void leastAndMostOfPlace() {
        for (int helpers : new int[] {1, 2, 7, 8}) {
            for (int rule : new int[] {0, 1, 2, 3}) {
                for (int delay : new int[] {0, 1, 999, 1000}) {
                    String about = "2: place " + helpers + " " + rule + " " + delay;
                    QueueReader x = new QueueReader();
                    Due.answer(about, 0, () -> x.place(helpers, rule, delay));
                    hasNumbers(about, x, helpers, rule, delay);
                }
            }
        }
    }

    /** "IllegalArgumentException: a number is none". */
    private static void belowAndAboveOfPlace() {
        QueueReader x = new QueueReader();
        Due.noArgument("2: 0 helpers", () -> x.place(0, 0, 0));
        Due.noArgument("2: 9 helpers", () -> x.place(9, 0, 0));
        Due.noArgument("2: rule -1", () -> x.place(1, -1, 0));
        Due.noArgument("2: rule 4", () -> x.place(1, 4, 0));
        Due.noArgument("2: delay -1", () -> x.place(1, 0, -1));
        Due.noArgument("2: delay 1001", () -> x.place(1, 0, 1001));
        Due.answer("2: no place came of it", 0, () -> x.count(0));
        Due.noIndex("2: nor can be gone to", () -> x.ask(0, 0, 0, 1));
        Due.answer("2: narrow is none still", -1, x::narrow);
        Due.answer("2: the next is number 0", 0, () -> x.place(8, 3, 1000));
        hasNumbers("2: behind what was refused", x, 8, 3, 1000);
    }

    /** "PLACES (at most 5, numbered from 0 on)"; "UnsupportedOperationException: there are 5". */
    private static void fivePlacesAndNoSixth() {
        QueueReader x = new QueueReader();
        for (int i = 0; i < 5; i++) {
            int number = i;
            Due.answer("2: place number " + i, i, () -> x.place(1, 0, 10 * number));
            Due.answer("2: so many there are", i + 1, () -> x.count(0));
        }
        Due.noRoom("2: no sixth", () -> x.place(1, 0, 7));
        Due.noRoom("2: nor another one", () -> x.place(8, 3, 1000));
        Due.noArgument("2: what is told first: a number is none", () -> x.place(0, 0, 0));
        Due.noArgument("2: a number is none, the last", () -> x.place(1, 0, 1001));
        Due.answer("2: five stay", 5, () -> x.count(0));
        Due.noIndex("2: there is no place 5", () -> x.ask(0, 0, 5, 1));
        Due.noIndex("2: to change place 5", () -> Calls.change(x, 5, 1, 0, 0));
        Due.answer("2: place 4 can be gone to", 0, () -> x.ask(0, 0, 4, 1));
        for (int i = 1; i < 5; i++) {
            int place = 4 - i;
            Due.answer("2: and place " + place, i, () -> x.step(0, place, 1));
        }
        Due.answer("2: each has its own delay", 5 + 40 + 30 + 20 + 10, () -> x.alone(0));
        Due.answer("2: by play, too", 105, () -> x.count(4));
    }

    private static void leastAndMostOfChange() {
        for (int helpers : new int[] {1, 8}) {
            for (int rule : new int[] {0, 1, 2, 3}) {
                for (int delay : new int[] {0, 1000}) {
                    String about = "3: change to " + helpers + " " + rule + " " + delay;
                    QueueReader x = new QueueReader();
                    x.place(9 - helpers, 3 - rule, 1000 - delay);
                    Due.answer(about, 0, () -> Calls.change(x, 0, helpers, rule, delay));
                    hasNumbers(about, x, helpers, rule, delay);
                }
            }
        }
    }

    /** "IllegalArgumentException: a number is none": the other numbers of the call do not come either. */
    private static void belowAndAboveOfChange() {
        int[][] wrong = {{0, 1, 5}, {9, 1, 5}, {2, -1, 5}, {2, 4, 5}, {2, 1, -1}, {2, 1, 1001}};
        for (int[] w : wrong) {
            String about = "3: change to " + w[0] + " " + w[1] + " " + w[2];
            QueueReader x = new QueueReader();
            x.place(3, 2, 4);
            Due.noArgument(about, () -> Calls.change(x, 0, w[0], w[1], w[2]));
            hasNumbers(about + " is refused", x, 3, 2, 4);
        }
    }

    /** "there is no such PLACE": only what was made, from 0 on, can be changed. */
    private static void numbersThatCanBeChanged() {
        QueueReader x = new QueueReader();
        for (int i = 0; i < 5; i++) {
            int place = i;
            Due.noIndex("3: place " + i + " is not there yet", () -> Calls.change(x, place, 1, 0, 100));
            Due.noIndex("3: told ahead of a number that is none", () -> Calls.change(x, place, 0, 0, 0));
            x.place(1, 0, 0);
            Due.answer("3: now it is", 0, () -> Calls.change(x, place, 1, 0, 1 + place));
        }
        Due.noIndex("3: place -1", () -> Calls.change(x, -1, 1, 0, 100));
        Due.noIndex("3: place 5", () -> Calls.change(x, 5, 1, 0, 100));
        x.ask(0, 0, 0, 1);
        for (int i = 1; i < 5; i++) {
            x.step(0, i, 1);
        }
        Due.answer("3: each was changed alone", 5 + 1 + 2 + 3 + 4, () -> x.alone(0));
        Due.answer("3: the first again", 0, () -> Calls.change(x, 0, 1, 0, 1000));
        Due.answer("3: it alone", 5 + 1000 + 2 + 3 + 4, () -> x.alone(0));
        Due.answer("3: no place more by a change", 5, () -> x.count(0));
    }
}
