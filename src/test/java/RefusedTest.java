import java.util.ArrayList;
import java.util.List;
import java.util.function.Function;
import java.util.function.Supplier;

/**
 * "Of several exceptions the one told first is thrown; a call that throws changes nothing": each
 * refused call of each promise, on an empty, a small and a full object. After each one the object
 * answers all that can be read, and later calls, as one that was never asked so.
 */
public final class RefusedTest {
    private static final String INDEX = "throws.IndexOutOfBoundsException";
    private static final String ARGUMENT = "throws.IllegalArgumentException";
    private static final String ROOM = "throws.UnsupportedOperationException";
    private static final String ELEMENT = "throws.NoSuchElementException";
    private static final int LEAST = Integer.MIN_VALUE;
    private static final int MOST = Integer.MAX_VALUE;

    /** Helpers, rule and delay, of which one is just below or above its limits, or far off. */
    private static final int[][] WRONG_PLACES = {
        {0, 0, 0}, {9, 0, 0}, {LEAST, 3, 1000}, {MOST, 3, 1000},
        {1, -1, 0}, {1, 4, 0}, {8, LEAST, 1000}, {8, MOST, 1000},
        {1, 0, -1}, {1, 0, 1001}, {8, 3, LEAST}, {8, 3, MOST}};
    /** Kind, start and work, the same. */
    private static final int[][] WRONG_ASKS = {
        {-1, 0, 1}, {4, 0, 1}, {LEAST, 100000, 1000}, {MOST, 100000, 1000},
        {0, -1, 1}, {0, 100001, 1}, {3, LEAST, 1000}, {3, MOST, 1000},
        {0, 0, 0}, {0, 0, 1001}, {3, 100000, LEAST}, {3, 100000, MOST}};
    private static final int[] WRONG_WORKS = {0, 1001, -1, LEAST, MOST};
    /** Begun and done. */
    private static final int[][] WRONG_TICKS = {
        {-1, 5}, {-1, 0}, {-2, -1}, {LEAST, 5}, {LEAST, MOST},
        {5, 10000001}, {9999999, 10000001}, {10000000, 10000001}, {5, MOST}, {5, -1}, {5, LEAST},
        {0, 0}, {5, 5}, {6, 5}, {1, 0}, {10000000, 10000000}, {10000000, 9999999}, {10000001, 5}};
    /** From and to. */
    private static final int[][] WRONG_SPANS = {
        {-1, 0}, {-1, -1}, {-1, 5}, {LEAST, 5}, {1, 0}, {5, 4}, {10000000, 9999999}, {0, -1}, {0, LEAST},
        {0, 10000001}, {10000000, 10000001}, {10000001, 10000001}, {0, MOST}, {MOST, MOST}, {LEAST, MOST}};

    private record Refusal(String about, String want, Function<QueueReader, Long> call) {
    }

    private final int places;
    private final int asks;
    /** Of the last ask. */
    private final int steps;
    private final List<Refusal> refusals = new ArrayList<>();

    private RefusedTest(int places, int asks, int steps) {
        this.places = places;
        this.asks = asks;
        this.steps = steps;
    }

    public static void main(String[] args) {
        new RefusedTest(0, 0, 0).checkAll("empty", QueueReader::new, "0 0 0 1 0 1 2");
        new RefusedTest(2, 3, 2).checkAll("small", Sample::small, "2 0 3 3 0 1 8");
        new RefusedTest(5, 60, 5).checkAll("full", Sample::full, ROOM + " 0 " + ROOM + " -1 0 1 300");
        Due.end();
    }

    private void checkAll(String state, Supplier<QueueReader> make, String laterAnswers) {
        placeCalls();
        askCalls();
        trackCalls();
        readCalls();
        countsCalls();
        String view = Sample.view(make.get());
        QueueReader other = make.get();
        Due.same(state + ": later calls", later(other), laterAnswers);
        String laterView = Sample.view(other);
        for (Refusal r : refusals) {
            String about = state + ": " + r.about;
            QueueReader x = make.get();
            Due.same(about, Due.outcome(() -> r.call.apply(x)), r.want);
            Due.same(about + ": what can be read then", Sample.view(x), view);
            QueueReader y = make.get();
            Due.outcome(() -> r.call.apply(y));
            Due.same(about + ": later calls", later(y), laterAnswers);
            Due.same(about + ": what can be read after later calls", Sample.view(y), laterView);
        }
    }

    /** What calls that change the object answer. */
    private static String later(QueueReader x) {
        return Due.outcome(() -> x.place(3, 1, 7))
                + " " + Due.outcome(() -> Calls.change(x, 0, 2, 3, 9))
                + " " + Due.outcome(() -> x.ask(1, 6, 0, 4))
                + " " + Due.outcome(() -> x.step(0, 0, 3))
                + " " + Due.outcome(() -> Calls.seen(x, 0, 0, 1, 6))
                + " " + Due.outcome(() -> Calls.unsee(x, 0, 0))
                + " " + Due.outcome(() -> x.trace());
    }

    private void refused(String about, String want, Function<QueueReader, Long> call) {
        refusals.add(new Refusal(about, want, call));
    }

    private int[] wrongPlaces() {
        return new int[] {-1, places, places + 1, LEAST, MOST};
    }

    private int[] wrongAsks() {
        return new int[] {-1, asks, asks + 1, LEAST, MOST};
    }

    /** Numbers of asks and steps that are not there together. */
    private List<int[]> wrongSteps() {
        List<int[]> wrong = new ArrayList<>();
        for (int ask : wrongAsks()) {
            wrong.add(new int[] {ask, 0});
        }
        if (asks > 0) {
            for (int step : new int[] {-1, steps, steps + 1, -5, LEAST, MOST}) {
                wrong.add(new int[] {asks - 1, step});
            }
        }
        return wrong;
    }

    private void placeCalls() {
        for (int[] w : WRONG_PLACES) {
            String numbers = w[0] + " " + w[1] + " " + w[2];
            refused("2: place " + numbers, ARGUMENT, x -> (long) x.place(w[0], w[1], w[2]));
            for (int place : wrongPlaces()) {
                refused("3: change of no place, to " + numbers, INDEX,
                        x -> Calls.change(x, place, w[0], w[1], w[2]));
            }
            for (int p = 0; p < places; p++) {
                int place = p;
                refused("3: change " + place + " to " + numbers, ARGUMENT,
                        x -> Calls.change(x, place, w[0], w[1], w[2]));
            }
        }
        if (places == 5) {
            refused("2: a sixth place, of the least", ROOM, x -> (long) x.place(1, 0, 0));
            refused("2: a sixth place, of the most", ROOM, x -> (long) x.place(8, 3, 1000));
        }
        for (int place : wrongPlaces()) {
            refused("3: change of place " + place, INDEX, x -> Calls.change(x, place, 1, 0, 0));
        }
    }

    private void askCalls() {
        for (int place : wrongPlaces()) {
            refused("4: ask at place " + place, INDEX, x -> (long) x.ask(0, 0, place, 1));
            refused("4: ask at place " + place + ", all wrong", INDEX, x -> (long) x.ask(4, -1, place, 0));
            refused("5: step of ask 0 to place " + place, INDEX, x -> (long) x.step(0, place, 1));
            refused("5: step of ask 0 to place " + place + ", the work wrong", INDEX,
                    x -> (long) x.step(0, place, 0));
        }
        for (int[] w : WRONG_ASKS) {
            refused("4: ask " + w[0] + " " + w[1] + " " + w[2], places > 0 ? ARGUMENT : INDEX,
                    x -> (long) x.ask(w[0], w[1], 0, w[2]));
        }
        if (asks == 60) {
            refused("4: a 61st ask, of the least", ROOM, x -> (long) x.ask(0, 0, 0, 1));
            refused("4: a 61st ask, of the most", ROOM, x -> (long) x.ask(3, 100000, 4, 1000));
        }
        for (int ask : wrongAsks()) {
            refused("5: step of ask " + ask, INDEX, x -> (long) x.step(ask, 0, 1));
            refused("5: step of ask " + ask + ", all wrong", INDEX, x -> (long) x.step(ask, -1, 0));
        }
        for (int work : WRONG_WORKS) {
            refused("5: step of work " + work, asks > 0 ? ARGUMENT : INDEX,
                    x -> (long) x.step(asks - 1, places - 1, work));
        }
    }

    private void trackCalls() {
        for (int[] w : wrongSteps()) {
            String step = w[0] + " " + w[1];
            refused("6: seen of " + step, INDEX, x -> Calls.seen(x, w[0], w[1], 2, 9));
            refused("6: seen of " + step + ", begun wrong", INDEX, x -> Calls.seen(x, w[0], w[1], -1, 9));
            refused("6: seen of " + step + ", done wrong", INDEX, x -> Calls.seen(x, w[0], w[1], 2, 2));
            refused("7: unsee of " + step, INDEX, x -> Calls.unsee(x, w[0], w[1]));
        }
        for (int[] w : WRONG_TICKS) {
            String ticks = w[0] + " to " + w[1];
            refused("6: the first step seen " + ticks, asks > 0 ? ARGUMENT : INDEX,
                    x -> Calls.seen(x, 0, 0, w[0], w[1]));
            refused("6: the last step seen " + ticks, asks > 0 ? ARGUMENT : INDEX,
                    x -> Calls.seen(x, asks - 1, steps - 1, w[0], w[1]));
        }
    }

    private void readCalls() {
        for (int[] w : wrongSteps()) {
            for (int what : new int[] {-1, 0, 1, 2, 3}) {
                refused("8: played " + w[0] + " " + w[1] + " " + what, INDEX,
                        x -> (long) x.played(w[0], w[1], what));
            }
        }
        for (int what : new int[] {-1, 3, LEAST, MOST}) {
            refused("8: played, what " + what, asks > 0 ? ELEMENT : INDEX,
                    x -> (long) x.played(asks - 1, steps - 1, what));
        }
        for (int place : wrongPlaces()) {
            refused("11: found of place " + place, INDEX, x -> (long) x.found(place, false));
            refused("11: found of place " + place + ", the rule", INDEX, x -> (long) x.found(place, true));
            refused("12: overlap of place " + place, INDEX, x -> (long) x.overlap(place));
            refused("15: saved at place " + place, INDEX, x -> x.saved(place));
        }
        for (int ask : wrongAsks()) {
            refused("17: alone of ask " + ask, INDEX, x -> (long) x.alone(ask));
        }
    }

    private void countsCalls() {
        for (boolean tracks : new boolean[] {false, true}) {
            for (int place : wrongPlaces()) {
                refused("13: counts of place " + place, INDEX, x -> x.counts(place, tracks, 0, 9, 0));
                refused("13: counts of place " + place + ", the span wrong", INDEX,
                        x -> x.counts(place, tracks, 5, 4, 0));
                refused("13: counts of place " + place + ", all wrong", INDEX,
                        x -> x.counts(place, tracks, -1, 10000001, 4));
            }
            for (int[] w : WRONG_SPANS) {
                for (int what : new int[] {-1, 0, 3, 4}) {
                    refused("13: counts from " + w[0] + " to " + w[1] + ", what " + what,
                            places > 0 ? ARGUMENT : INDEX, x -> x.counts(places - 1, tracks, w[0], w[1], what));
                }
            }
            for (int what : new int[] {-1, 4, LEAST, MOST}) {
                refused("13: counts, what " + what, places > 0 ? ELEMENT : INDEX,
                        x -> x.counts(places - 1, tracks, 0, 10000000, what));
                refused("13: counts of no tick, what " + what, places > 0 ? ELEMENT : INDEX,
                        x -> x.counts(places - 1, tracks, 0, 0, what));
            }
        }
    }
}
