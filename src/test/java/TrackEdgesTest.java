/** Promises 6, 7, 9 and 10 at their edges; RefusedTest has what is left behind by a refused call. */
public final class TrackEdgesTest {
    public static void main(String[] args) {
        leastAndMostTicks();
        belowAndAboveTicks();
        doneIsLater();
        latestTellingCounts();
        refusedTellingKeepsTheLatest();
        stepsThatCanBeSeen();
        lastStepOfAll();
        unseeAnswers();
        unseenIsForgotten();
        traceOfNothing();
        traceTellsAnew();
        traceOfAFullObject();
        unlikeAtOneTick();
        unlikeOfMany();
        Due.end();
    }

    /** Played: step 0 at place 0 from 0 to 4, step 1 at place 1 from 6 to 9. */
    private static QueueReader oneAsk() {
        QueueReader x = new QueueReader();
        x.place(1, 0, 2);
        x.place(1, 0, 0);
        x.ask(0, 0, 0, 4);
        x.step(0, 1, 3);
        return x;
    }

    /** Whether the one step that is seen at place 0 is seen so. */
    private static void isTold(String about, QueueReader x, int begun, int done) {
        Due.answer(about + ": one is helped at once", 1, () -> x.overlap(0));
        Due.answer(about + ": between begun and done", done - begun, () -> x.counts(0, true, 0, 10000000, 3));
        Due.answer(about + ": not ahead of begun", 0, () -> x.counts(0, true, 0, begun, 3));
        Due.answer(about + ": up to done", done - begun, () -> x.counts(0, true, begun, done, 3));
        if (done < 10000000) {
            Due.answer(about + ": done", 1, () -> x.counts(0, true, done, done + 1, 1));
        }
        Due.answer(about + ": done at no other tick", done < 10000000 ? 1 : 0,
                () -> x.counts(0, true, 0, 10000000, 1));
    }

    /** "0 to 10000000": what is allowed. */
    private static void leastAndMostTicks() {
        int[][] ticks = {{0, 1}, {0, 2}, {0, 10000000}, {9999999, 10000000}, {9999998, 9999999}, {1, 10000000}};
        for (int[] t : ticks) {
            String about = "6: seen " + t[0] + " " + t[1];
            QueueReader x = oneAsk();
            Due.answer(about, 0, () -> Calls.seen(x, 0, 0, t[0], t[1]));
            Due.answer(about + ": seen steps", 1, () -> x.count(3));
            isTold(about, x, t[0], t[1]);
        }
    }

    /** "IllegalArgumentException: a tick is none". */
    private static void belowAndAboveTicks() {
        QueueReader x = oneAsk();
        Due.noArgument("6: begun at -1", () -> Calls.seen(x, 0, 0, -1, 5));
        Due.noArgument("6: begun at -1, done at 0", () -> Calls.seen(x, 0, 0, -1, 0));
        Due.noArgument("6: done at 10000001", () -> Calls.seen(x, 0, 0, 5, 10000001));
        Due.noArgument("6: begun at 10000000, done at 10000001", () -> Calls.seen(x, 0, 0, 10000000, 10000001));
        Due.noArgument("6: begun at 10000001", () -> Calls.seen(x, 0, 0, 10000001, 10000002));
        Due.noArgument("6: both at ticks below 0", () -> Calls.seen(x, 0, 0, -2, -1));
        Due.answer("6: nothing is seen of it", 0, () -> x.count(3));
        Due.answer("6: nor at the place", 0, () -> x.overlap(0));
        Due.answer("7: nor was it seen", 0, () -> Calls.unsee(x, 0, 0));
        Due.answer("6: it can be seen", 0, () -> Calls.seen(x, 0, 0, 0, 10000000));
    }

    /** "or done is not later than begun". */
    private static void doneIsLater() {
        QueueReader x = oneAsk();
        for (int begun : new int[] {0, 1, 7, 9999999, 10000000}) {
            Due.noArgument("6: done when begun, at " + begun, () -> Calls.seen(x, 0, 0, begun, begun));
            if (begun > 0) {
                Due.noArgument("6: done a tick ahead of " + begun, () -> Calls.seen(x, 0, 0, begun, begun - 1));
            }
            Due.answer("6: nothing is seen of it", 0, () -> x.count(3));
        }
        for (int begun : new int[] {0, 1, 7, 9999999}) {
            Due.answer("6: done a tick behind " + begun, 0, () -> Calls.seen(x, 0, 0, begun, begun + 1));
            isTold("6: a tick behind " + begun, x, begun, begun + 1);
        }
    }

    /** "the latest telling counts". */
    private static void latestTellingCounts() {
        QueueReader x = oneAsk();
        int[][] tellings = {{5, 9}, {6, 9}, {6, 8}, {0, 1}, {0, 10000000}, {3, 4}, {3, 4}};
        for (int[] t : tellings) {
            x.seen(0, 0, t[0], t[1]);
            isTold("6: the latest, " + t[0] + " " + t[1], x, t[0], t[1]);
            Due.answer("6: one step is seen, told how often ever", 1, () -> x.count(3));
        }
    }

    private static void refusedTellingKeepsTheLatest() {
        QueueReader x = oneAsk();
        x.seen(0, 0, 5, 9);
        int[][] wrong = {{-1, 20}, {7, 10000001}, {7, 7}, {7, 6}};
        for (int[] w : wrong) {
            Due.noArgument("6: refused " + w[0] + " " + w[1], () -> Calls.seen(x, 0, 0, w[0], w[1]));
            isTold("6: the one before counts", x, 5, 9);
        }
        Due.answer("7: it was seen all the time", 1, () -> Calls.unsee(x, 0, 0));
    }

    /** "there is no such .. ASK, STEP", which is told ahead of the ticks. */
    private static void stepsThatCanBeSeen() {
        QueueReader x = oneAsk();
        x.ask(0, 0, 0, 1);
        int[][] wrong = {{-1, 0}, {2, 0}, {0, -1}, {0, 2}, {1, 1}, {1, -1}, {1, -5}, {0, 5}, {60, 0}};
        for (int[] w : wrong) {
            String about = w[0] + " " + w[1];
            Due.noIndex("6: seen of " + about, () -> Calls.seen(x, w[0], w[1], 0, 1));
            Due.noIndex("6: seen of " + about + ", told ahead of a tick", () -> Calls.seen(x, w[0], w[1], -1, 1));
            Due.noIndex("6: seen of " + about + ", told ahead of done", () -> Calls.seen(x, w[0], w[1], 1, 1));
            Due.noIndex("7: unsee of " + about, () -> Calls.unsee(x, w[0], w[1]));
        }
        Due.answer("6: nothing is seen of it", 0, () -> x.count(3));
        int[][] right = {{0, 0}, {0, 1}, {1, 0}};
        for (int i = 0; i < 3; i++) {
            int[] r = right[i];
            Due.answer("6: seen of " + r[0] + " " + r[1], 0, () -> Calls.seen(x, r[0], r[1], 0, 1));
            Due.answer("6: so many are seen", i + 1, () -> x.count(3));
        }
        x.step(1, 0, 1);
        Due.answer("6: a step that came later is not seen", 3, () -> x.count(3));
        Due.answer("7: nor was it", 0, () -> Calls.unsee(x, 1, 1));
        Due.answer("6: but can be", 0, () -> Calls.seen(x, 1, 1, 0, 1));
        Due.answer("6: all four", 4, () -> x.count(3));
    }

    /** Step 4 of ask 59, the last that there can be. */
    private static void lastStepOfAll() {
        QueueReader x = Sample.full();
        Due.answer("7: it was seen", 1, () -> Calls.unsee(x, 59, 4));
        Due.answer("7: it alone is not any more", 299, () -> x.count(3));
        Due.answer("10: nothing is unlike", 0, x::unlike);
        Due.answer("6: seen again", 0, () -> Calls.seen(x, 59, 4, 9999999, 10000000));
        Due.answer("6: all are seen", 300, () -> x.count(3));
        Due.answer("10: it alone is unlike", 1, x::unlike);
        Due.noIndex("6: there is no step 5", () -> Calls.seen(x, 59, 5, 0, 1));
        Due.noIndex("7: to unsee, too", () -> Calls.unsee(x, 59, 5));
        Due.noIndex("6: there is no ask 60", () -> Calls.seen(x, 60, 0, 0, 1));
        Due.noIndex("7: to unsee, too", () -> Calls.unsee(x, 60, 0));
        Due.answer("6: all are seen still", 300, () -> x.count(3));
    }

    /** "A STEP is not SEEN any more: whether it was." */
    private static void unseeAnswers() {
        QueueReader x = oneAsk();
        Due.answer("7: never seen", 0, () -> Calls.unsee(x, 0, 0));
        Due.answer("7: nothing less than none", 0, () -> x.count(3));
        x.seen(0, 1, 6, 9);
        Due.answer("7: another one was seen", 0, () -> Calls.unsee(x, 0, 0));
        Due.answer("7: which is seen still", 1, () -> x.count(3));
        Due.answer("7: it was", 1, () -> Calls.unsee(x, 0, 1));
        Due.answer("7: it is not any more", 0, () -> x.count(3));
        Due.answer("7: nor was it a second time", 0, () -> Calls.unsee(x, 0, 1));
        x.seen(0, 1, 6, 9);
        x.seen(0, 1, 6, 10);
        Due.answer("7: told twice", 1, () -> Calls.unsee(x, 0, 1));
        Due.answer("7: forgotten at once", 0, () -> Calls.unsee(x, 0, 1));
        x.trace();
        Due.answer("7: seen by trace, the first", 1, () -> Calls.unsee(x, 0, 0));
        Due.answer("7: seen by trace, the last", 1, () -> Calls.unsee(x, 0, 1));
        Due.answer("7: none is left", 0, () -> x.count(3));
    }

    private static void unseenIsForgotten() {
        QueueReader x = oneAsk();
        x.seen(0, 0, 1, 4);
        x.seen(0, 1, 6, 9);
        Due.answer("7: while seen: unlike", 1, x::unlike);
        Due.answer("7: while seen: the step behind is known", 1, () -> x.counts(1, true, 0, 100, 0));
        Due.answer("7: while seen: found behind", 1, () -> x.found(1, false));
        x.unsee(0, 0);
        Due.answer("7: unlike", 0, x::unlike);
        Due.answer("7: overlap", 0, () -> x.overlap(0));
        Due.answer("7: found", -1, () -> x.found(0, false));
        Due.answer("7: by tracks nobody came", 0, () -> x.counts(0, true, 0, 100, 0));
        Due.answer("7: it is not known when the step behind came", 0, () -> x.counts(1, true, 0, 100, 0));
        Due.answer("7: nor found", -1, () -> x.found(1, false));
        Due.answer("7: that one is seen still", 1, () -> x.overlap(1));
        Due.answer("7: the play is as it was", 9, () -> x.count(4));
        x.seen(0, 0, 0, 4);
        Due.answer("6: seen anew", 4, () -> x.counts(0, true, 0, 100, 3));
        Due.answer("6: and the step behind is known", 1, () -> x.counts(1, true, 6, 7, 0));
    }

    private static void traceOfNothing() {
        QueueReader x = new QueueReader();
        Due.answer("9: no places", 0, x::trace);
        x.place(1, 0, 0);
        Due.answer("9: no asks", 0, x::trace);
        Due.answer("9: none seen", 0, () -> x.count(3));
        x.ask(0, 5, 0, 1);
        Due.answer("9: a step that came later is not seen", 0, () -> x.count(3));
        Due.answer("9: one", 1, x::trace);
        isTold("9: one", x, 5, 6);
    }

    /** "All STEPS are SEEN as PLAY has them: how many there are." */
    private static void traceTellsAnew() {
        QueueReader x = oneAsk();
        x.seen(0, 0, 100, 200);
        Due.answer("9: how many steps, not how many new", 2, x::trace);
        isTold("9: over what was told", x, 0, 4);
        Due.answer("9: once more", 2, x::trace);
        Due.answer("9: two are seen", 2, () -> x.count(3));
        x.unsee(0, 0);
        Due.answer("9: behind unsee", 2, x::trace);
        Due.answer("9: two are seen again", 2, () -> x.count(3));
        x.seen(0, 0, 1, 4);
        isTold("9: told over trace", x, 1, 4);
        x.trace();
        x.change(0, 1, 0, 1000);
        Due.answer("9: a change later is not traced", 1, x::unlike);
        Due.answer("9: until it is", 2, x::trace);
        Due.answer("10: none unlike then", 0, x::unlike);
        Due.answer("9: the step behind the delay", 3, () -> x.counts(1, true, 1004, 1007, 3));
    }

    private static void traceOfAFullObject() {
        QueueReader x = new QueueReader();
        x.place(1, 0, 1000);
        Sample.fill(x, 60, 100000, 1000);
        Due.answer("9: none seen ahead of it", 0, () -> x.count(3));
        Due.answer("9: 300", 300, x::trace);
        Due.answer("9: 300 are seen", 300, () -> x.count(3));
        Due.answer("9: 300 again", 300, x::trace);
        Due.answer("10: none unlike", 0, x::unlike);
        Due.answer("9: all the work", 300000, () -> x.counts(0, true, 100000, 400000, 3));
        Due.answer("9: the last is done", 1, () -> x.counts(0, true, 400000, 400001, 1));
        Due.answer("11: as played", 1, () -> x.found(0, false));
        Due.answer("11: by rule 0", 0, () -> x.found(0, true));
    }

    /** "how many SEEN STEPS PLAY begins, or does, at other ticks". */
    private static void unlikeAtOneTick() {
        int[][] tellings = {
            {6, 9, 0}, {5, 9, 1}, {7, 9, 1}, {6, 8, 1}, {6, 10, 1}, {5, 8, 1}, {7, 10, 1}, {0, 10000000, 1}};
        for (int[] t : tellings) {
            QueueReader x = oneAsk();
            x.seen(0, 1, t[0], t[1]);
            Due.answer("10: step 1 seen " + t[0] + " " + t[1], t[2], x::unlike);
            x.seen(0, 0, 0, 5);
            Due.answer("10: and step 0 another one", t[2] + 1, x::unlike);
        }
    }

    private static void unlikeOfMany() {
        QueueReader x = Sample.withPlaces(1, 8);
        Sample.fill(x, 50, 0, 1);
        for (int i = 0; i < 50; i++) {
            for (int s = 0; s < 5; s++) {
                x.seen(i, s, 9999999, 10000000);
            }
        }
        Due.answer("10: all 250", 250, x::unlike);
        Due.answer("9: all traced", 250, x::trace);
        Due.answer("10: none", 0, x::unlike);
    }
}
