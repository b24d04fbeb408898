/** Promise 13 at its edges: each sentence of COUNTS, and which spans and whats there are. */
public final class CountsEdgesTest {
    public static void main(String[] args) {
        everySpanOfAFewTicks();
        noTickAtAll();
        leastAndGreatestSpan();
        fromBelowAndBehind();
        toAboveAndAhead();
        whats();
        placesOfCounts();
        toldFirst();
        knownComingsOnly();
        oddComings();
        greatestComing();
        greatSums();
        fullObject();
        Due.end();
    }

    /** Nothing but asks 0 and 1 at place 0: came 3 and 5, begun 3 and 8, done 8 and 12, by play and by tracks. */
    private static QueueReader twoAsks() {
        QueueReader x = new QueueReader();
        x.place(1, 0, 0);
        x.ask(0, 3, 0, 5);
        x.ask(0, 5, 0, 4);
        x.trace();
        return x;
    }

    /** "over a span of ticks, from one to just ahead of another one": what each tick by itself gives. */
    private static void everySpanOfAFewTicks() {
        int[][] asks = {{3, 3, 8}, {5, 8, 12}};
        for (boolean tracks : new boolean[] {false, true}) {
            for (int f = 0; f <= 14; f++) {
                QueueReader x = twoAsks();
                int from = f;
                for (int t = f; t <= 14; t++) {
                    int to = t;
                    for (int w = 0; w <= 3; w++) {
                        int what = w;
                        Due.answer("13: tracks " + tracks + " from " + from + " to " + to + " what " + what,
                                sumOfTicks(asks, from, to, what), () -> x.counts(0, tracks, from, to, what));
                    }
                }
            }
        }
    }

    private static long sumOfTicks(int[][] asks, int from, int to, int what) {
        long sum = 0;
        for (int tick = from; tick < to; tick++) {
            for (int[] a : asks) {
                boolean isOne = what == 0 ? a[0] == tick
                        : what == 1 ? a[2] == tick
                        : what == 2 ? a[0] <= tick && a[2] > tick
                        : a[1] <= tick && a[2] > tick;
                sum += isOne ? 1 : 0;
            }
        }
        return sum;
    }

    private static void counts(String about, QueueReader x, boolean tracks, int from, int to, long... want) {
        for (int w = 0; w <= 3; w++) {
            int what = w;
            Due.answer("13: " + about + ", what " + what, want[what], () -> x.counts(0, tracks, from, to, what));
        }
    }

    private static void noTickAtAll() {
        QueueReader x = twoAsks();
        for (boolean tracks : new boolean[] {false, true}) {
            for (int tick : new int[] {0, 3, 5, 8, 12, 9999999, 10000000}) {
                counts("from " + tick + " to " + tick, x, tracks, tick, tick, 0, 0, 0, 0);
            }
        }
    }

    /** "0 to from to to, 10000000 at most": what is allowed. */
    private static void leastAndGreatestSpan() {
        QueueReader x = twoAsks();
        for (boolean tracks : new boolean[] {false, true}) {
            counts("all ticks", x, tracks, 0, 10000000, 2, 2, 12, 9);
            counts("all but the last", x, tracks, 0, 9999999, 2, 2, 12, 9);
            counts("all but the first", x, tracks, 1, 10000000, 2, 2, 12, 9);
            counts("the first tick", x, tracks, 0, 1, 0, 0, 0, 0);
            counts("the last tick", x, tracks, 9999999, 10000000, 0, 0, 0, 0);
        }
        QueueReader y = new QueueReader();
        y.place(1, 0, 0);
        y.ask(0, 0, 0, 1);
        y.seen(0, 0, 0, 1);
        for (boolean tracks : new boolean[] {false, true}) {
            counts("at the first tick", y, tracks, 0, 1, 1, 0, 1, 1);
            counts("at the second", y, tracks, 1, 2, 0, 1, 0, 0);
        }
        y.seen(0, 0, 9999998, 9999999);
        counts("done at the last tick", y, true, 9999999, 10000000, 0, 1, 0, 0);
        y.seen(0, 0, 9999999, 10000000);
        counts("begun at the last tick, done behind it", y, true, 9999999, 10000000, 0, 0, 1, 1);
    }

    /** "not 0 to from": IllegalArgumentException. */
    private static void fromBelowAndBehind() {
        QueueReader x = twoAsks();
        for (boolean tracks : new boolean[] {false, true}) {
            for (int what : new int[] {0, 1, 2, 3}) {
                Due.noArgument("13: from -1 to 0", () -> x.counts(0, tracks, -1, 0, what));
                Due.noArgument("13: from -1 to -1", () -> x.counts(0, tracks, -1, -1, what));
                Due.noArgument("13: from -1 to 10000000", () -> x.counts(0, tracks, -1, 10000000, what));
                Due.noArgument("13: from 1 to 0", () -> x.counts(0, tracks, 1, 0, what));
                Due.noArgument("13: from 6 to 5", () -> x.counts(0, tracks, 6, 5, what));
                Due.noArgument("13: from 10000000 to 9999999", () -> x.counts(0, tracks, 10000000, 9999999, what));
            }
            counts("behind what was refused", x, tracks, 0, 100, 2, 2, 12, 9);
        }
    }

    /** "10000000 at most": IllegalArgumentException. */
    private static void toAboveAndAhead() {
        QueueReader x = twoAsks();
        for (boolean tracks : new boolean[] {false, true}) {
            for (int what : new int[] {0, 1, 2, 3}) {
                Due.noArgument("13: to 10000001", () -> x.counts(0, tracks, 0, 10000001, what));
                Due.noArgument("13: from 10000000 on", () -> x.counts(0, tracks, 10000000, 10000001, what));
                Due.noArgument("13: no tick, at 10000001", () -> x.counts(0, tracks, 10000001, 10000001, what));
                Due.noArgument("13: to the greatest number", () -> x.counts(0, tracks, 0, Integer.MAX_VALUE, what));
                Due.noArgument("13: to the least number", () -> x.counts(0, tracks, 0, Integer.MIN_VALUE, what));
                Due.noArgument("13: to -1", () -> x.counts(0, tracks, 0, -1, what));
            }
            counts("behind what was refused", x, tracks, 0, 100, 2, 2, 12, 9);
        }
    }

    /** "NoSuchElementException: another what". */
    private static void whats() {
        QueueReader x = twoAsks();
        for (boolean tracks : new boolean[] {false, true}) {
            for (int what : new int[] {-1, 4, Integer.MIN_VALUE, Integer.MAX_VALUE}) {
                Due.noElement("13: what " + what, () -> x.counts(0, tracks, 0, 100, what));
                Due.noElement("13: what " + what + " of no tick", () -> x.counts(0, tracks, 0, 0, what));
                Due.noElement("13: what " + what + " of all", () -> x.counts(0, tracks, 0, 10000000, what));
            }
            counts("behind what was refused", x, tracks, 0, 100, 2, 2, 12, 9);
        }
    }

    /** "IndexOutOfBoundsException: there is no such PLACE"; each place has its own. */
    private static void placesOfCounts() {
        for (int places = 0; places <= 5; places++) {
            QueueReader x = Sample.withPlaces(places, 1);
            for (int i = 0; i < places; i++) {
                x.ask(0, i, i, 1 + i);
            }
            x.trace();
            for (boolean tracks : new boolean[] {false, true}) {
                for (int place : new int[] {-1, places, Integer.MIN_VALUE, Integer.MAX_VALUE}) {
                    Due.noIndex("13: place " + place + " of " + places, () -> x.counts(place, tracks, 0, 1, 0));
                }
                for (int i = 0; i < places; i++) {
                    int place = i;
                    Due.answer("13: place " + i + " of " + places, 1 + i, () -> x.counts(place, tracks, 0, 100, 2));
                }
            }
        }
    }

    /** "Of several exceptions the one told first is thrown": the place, then the span, then the what. */
    private static void toldFirst() {
        QueueReader x = twoAsks();
        for (boolean tracks : new boolean[] {false, true}) {
            Due.noIndex("13: the place ahead of the span", () -> x.counts(1, tracks, 1, 0, 0));
            Due.noIndex("13: the place ahead of the what", () -> x.counts(1, tracks, 0, 1, 4));
            Due.noIndex("13: the place ahead of both", () -> x.counts(-1, tracks, -1, 10000001, -1));
            Due.noArgument("13: from ahead of the what", () -> x.counts(0, tracks, -1, 1, 4));
            Due.noArgument("13: to ahead of the what", () -> x.counts(0, tracks, 0, 10000001, -1));
            Due.noArgument("13: their order ahead of the what", () -> x.counts(0, tracks, 1, 0, 4));
        }
    }

    /** "of these the SEEN STEPS of which it is known when they came, as above". */
    private static void knownComingsOnly() {
        QueueReader x = new QueueReader();
        x.place(1, 0, 0);
        x.place(1, 0, 6);
        x.ask(0, 0, 1, 4);
        x.step(0, 0, 5);
        x.seen(0, 1, 20, 25);
        counts("seen, but not known when it came", x, true, 0, 100, 0, 0, 0, 0);
        Due.answer("12: though it was seen", 1, () -> x.overlap(0));
        x.seen(0, 0, 0, 4);
        counts("known: at 10", x, true, 0, 100, 1, 1, 15, 5);
        counts("came at 10", x, true, 10, 11, 1, 0, 1, 0);
        counts("not there at 9", x, true, 9, 10, 0, 0, 0, 0);
        x.seen(0, 0, 1, 5);
        counts("the latest telling: came at 11", x, true, 0, 100, 1, 1, 14, 5);
        x.change(1, 1, 0, 0);
        counts("the delay of now: came at 5", x, true, 0, 100, 1, 1, 20, 5);
        x.unsee(0, 1);
        counts("known, but not seen", x, true, 0, 100, 0, 0, 0, 0);
        x.seen(0, 1, 20, 25);
        x.unsee(0, 0);
        counts("not known any more", x, true, 0, 100, 0, 0, 0, 0);
        counts("by play all the same", x, false, 0, 100, 1, 1, 5, 5);
    }

    /** Tracks may tell that a step was begun, or even done, before it came: each tick is counted as told. */
    private static void oddComings() {
        int[][] cases = {
            {9, 20, 10, 11}, {10, 20, 10, 10}, {11, 20, 10, 9}, {2, 10, 0, 8}, {2, 11, 1, 9}, {2, 9, 0, 7}, {2, 3, 0, 1}};
        for (int[] c : cases) {
            QueueReader x = new QueueReader();
            x.place(1, 0, 0);
            x.ask(0, 10, 0, 4);
            x.seen(0, 0, c[0], c[1]);
            counts("came at 10, seen " + c[0] + " " + c[1], x, true, 0, 100, 1, 1, c[2], c[3]);
        }
    }

    /** The greatest coming that tracks can tell of: done at 10000000, and a delay of 1000 behind. */
    private static void greatestComing() {
        QueueReader x = new QueueReader();
        x.place(1, 0, 0);
        x.place(1, 0, 1000);
        x.ask(0, 0, 1, 1);
        x.step(0, 0, 1);
        x.seen(0, 0, 0, 10000000);
        x.seen(0, 1, 5, 7);
        counts("came at 10001000", x, true, 0, 10000000, 0, 1, 0, 2);
        x.seen(0, 0, 0, 9998999);
        counts("came at 9999999", x, true, 0, 10000000, 1, 1, 0, 2);
        counts("at that tick", x, true, 9999999, 10000000, 1, 0, 0, 0);
        x.seen(0, 0, 0, 9999000);
        counts("came at 10000000", x, true, 0, 10000000, 0, 1, 0, 2);
    }

    /** A sum that no int holds: 220 steps, each of all ticks. */
    private static void greatSums() {
        QueueReader x = Sample.withPlaces(1, 8);
        Sample.fill(x, 44, 0, 1);
        for (int i = 0; i < 44; i++) {
            for (int s = 0; s < 5; s++) {
                x.seen(i, s, 0, 10000000);
            }
        }
        Due.answer("13: busy, over an int", 220L * 10000000L, () -> x.counts(0, true, 0, 10000000, 3));
        // The steps behind the first come when that is done: at 10000000, behind the last tick.
        Due.answer("13: stay of the first steps", 44L * 10000000L, () -> x.counts(0, true, 0, 10000000, 2));
        Due.answer("13: done behind the last tick", 0, () -> x.counts(0, true, 0, 10000000, 1));
    }

    private static void fullObject() {
        QueueReader x = Sample.full();
        long came = 0;
        for (int p = 0; p < 5; p++) {
            int place = p;
            came += x.counts(p, false, 0, 10000000, 0);
            for (int w = 0; w <= 3; w++) {
                int what = w;
                Due.answer("13: full: by tracks as by play, place " + p + " what " + w,
                        x.counts(place, false, 0, 10000000, what), () -> x.counts(place, true, 0, 10000000, what));
            }
        }
        Due.same("13: full: all came", Long.toString(came), "300");
        Due.noIndex("13: full: place 5", () -> x.counts(5, false, 0, 1, 0));
    }
}
