/** Promises 11 and 12 at their edges: each sentence of WHOLE, FOUND and OVERLAP. */
public final class FoundEdgesTest {
    public static void main(String[] args) {
        noStep();
        notWhole();
        knownByStart();
        knownByTheStepBefore();
        oneToEightHelpers();
        leastHelpers();
        leastRule();
        ruleOfSeveralAlike();
        justWhenItWasSeen();
        workIsWhatWasSeen();
        greatestTicks();
        placeAlone();
        manySteps();
        placesOfFound();
        overlapOfNothing();
        overlapAtATick();
        overlapOfAllThatIsSeen();
        placesOfOverlap();
        Due.end();
    }

    private static void finds(String about, QueueReader x, int place, int helpers, int rule) {
        Due.answer("11: " + about + ": helpers", helpers, () -> x.found(place, false));
        Due.answer("11: " + about + ": rule", rule, () -> x.found(place, true));
    }

    private static void findsNone(String about, QueueReader x, int place) {
        finds(about, x, place, -1, -1);
    }

    private static QueueReader withPlaces(int... delays) {
        QueueReader x = new QueueReader();
        for (int delay : delays) {
            x.place(1, 0, delay);
        }
        return x;
    }

    /** "NONE if .. the PLACE .. has no STEP". */
    private static void noStep() {
        QueueReader x = withPlaces(0, 0);
        findsNone("no asks", x, 0);
        x.ask(0, 0, 1, 4);
        x.seen(0, 0, 0, 4);
        findsNone("steps, but elsewhere", x, 0);
        finds("where the step is", x, 1, 1, 0);
        x.trace();
        findsNone("traced, but elsewhere", x, 0);
    }

    /** "NONE if .. the PLACE is not WHOLE": one of the steps there, whichever, is not seen. */
    private static void notWhole() {
        QueueReader x = withPlaces(0);
        for (int i = 0; i < 3; i++) {
            x.ask(0, 10 * i, 0, 5);
        }
        findsNone("none of three seen", x, 0);
        for (int missing = 0; missing < 3; missing++) {
            x.trace();
            finds("all of three seen", x, 0, 1, 0);
            x.unsee(missing, 0);
            findsNone("not seen: " + missing, x, 0);
            x.seen(missing, 0, 10 * missing, 10 * missing + 5);
            finds("seen again: " + missing, x, 0, 1, 0);
        }
        x.ask(0, 90, 0, 5);
        findsNone("an ask more, not seen", x, 0);
        x.seen(3, 0, 90, 95);
        finds("an ask more, seen", x, 0, 1, 0);
        x.step(3, 0, 5);
        findsNone("a step more, not seen", x, 0);
        x.seen(3, 1, 95, 96);
        finds("a step more, seen", x, 0, 1, 0);
    }

    /** "it is known when each came: its START for a STEP 0". */
    private static void knownByStart() {
        for (int start : new int[] {0, 1, 100000}) {
            QueueReader x = withPlaces(1000);
            x.ask(0, start, 0, 4);
            x.seen(0, 0, start, start + 4);
            finds("begun at its start " + start, x, 0, 1, 0);
            x.seen(0, 0, start + 1, start + 4);
            findsNone("begun a tick behind its start " + start, x, 0);
            if (start > 0) {
                x.seen(0, 0, start - 1, start + 4);
                findsNone("begun a tick ahead of its start " + start, x, 0);
            }
        }
    }

    /** "else the STEP before was SEEN, too (done, and DELAY of its PLACE behind)". */
    private static void knownByTheStepBefore() {
        for (int delay : new int[] {0, 1, 999, 1000}) {
            QueueReader x = withPlaces(delay, 7);
            x.ask(0, 0, 0, 4);
            x.step(0, 1, 3);
            int came = 20 + delay;
            x.seen(0, 1, came, came + 3);
            findsNone("the step before is not seen", x, 1);
            x.seen(0, 0, 0, 20);
            finds("it is seen, delay " + delay, x, 1, 1, 0);
            x.seen(0, 1, came - 1, came + 3);
            findsNone("begun a tick ahead of coming, delay " + delay, x, 1);
            x.seen(0, 1, came + 1, came + 3);
            findsNone("begun a tick behind coming, delay " + delay, x, 1);
            x.seen(0, 0, 0, 21);
            finds("the latest telling of the step before counts", x, 1, 1, 0);
            x.unsee(0, 0);
            findsNone("the step before is not seen any more", x, 1);
        }
        QueueReader y = withPlaces(0);
        y.ask(0, 0, 0, 1);
        y.step(0, 0, 1);
        y.step(0, 0, 1);
        y.trace();
        finds("all at one place", y, 0, 1, 0);
        y.unsee(0, 1);
        findsNone("the middle one is not seen", y, 0);
    }

    /** "the least HELPERS (1 to 8)": as many as are helped at once, and none for nine. */
    private static void oneToEightHelpers() {
        QueueReader x = withPlaces(0);
        for (int i = 0; i < 8; i++) {
            x.ask(0, 0, 0, 5);
            x.seen(i, 0, 0, 5);
            finds(i + 1 + " at once", x, 0, i + 1, 0);
        }
        x.ask(0, 0, 0, 5);
        x.seen(8, 0, 5, 10);
        finds("eight at once, and one that waited", x, 0, 8, 0);
        x.seen(8, 0, 0, 5);
        findsNone("nine at once", x, 0);
        Due.answer("12: nine at once", 9, () -> x.overlap(0));
        x.seen(8, 0, 5, 10);
        finds("eight again", x, 0, 8, 0);
    }

    private static void leastHelpers() {
        QueueReader x = new QueueReader();
        x.place(8, 3, 0);
        x.ask(0, 0, 0, 5);
        x.ask(0, 5, 0, 5);
        x.ask(0, 10, 0, 5);
        x.trace();
        finds("eight are there, but one is enough", x, 0, 1, 0);
        x.seen(0, 0, 0, 6);
        finds("two for one tick", x, 0, 2, 0);
        x.seen(1, 0, 5, 11);
        finds("two at both ends", x, 0, 2, 0);
        x.seen(0, 0, 0, 11);
        finds("three for one tick", x, 0, 3, 0);
    }

    /**
     * An ask is helped up to 10 while others {kind, start, work} wait, who are then begun one behind
     * the other in the order in which they stand, each with the number told last.
     */
    private static QueueReader begunInOrder(int[]... asks) {
        QueueReader x = withPlaces(0);
        int busy = asks.length;
        for (int number = 0; number < busy; number++) {
            for (int[] a : asks) {
                if (a[3] == number) {
                    x.ask(a[0], a[1], 0, a[2]);
                }
            }
        }
        x.ask(0, 0, 0, 10);
        x.seen(busy, 0, 0, 10);
        int tick = 10;
        for (int[] a : asks) {
            x.seen(a[3], 0, tick, tick + a[2]);
            tick += a[2];
        }
        return x;
    }

    /** "of these the least RULE": the first of those that agree, whichever these are. */
    private static void leastRule() {
        finds("all rules agree", begunInOrder(new int[] {1, 2, 3, 0}, new int[] {1, 2, 3, 1}), 0, 1, 0);
        finds("0, 2 and 3 agree", begunInOrder(new int[] {0, 2, 3, 1}, new int[] {1, 3, 4, 0}), 0, 1, 0);
        finds("0 alone agrees", begunInOrder(new int[] {1, 2, 4, 1}, new int[] {0, 3, 3, 0}), 0, 1, 0);
        finds("1, 2 and 3 agree", begunInOrder(new int[] {0, 3, 3, 1}, new int[] {1, 2, 4, 0}), 0, 1, 1);
        finds("1 alone agrees", begunInOrder(new int[] {1, 3, 4, 1}, new int[] {0, 2, 3, 0}), 0, 1, 1);
        finds("2 and 3 agree",
                begunInOrder(new int[] {0, 3, 3, 2}, new int[] {1, 2, 4, 1}, new int[] {2, 4, 5, 0}), 0, 1, 2);
        finds("2 alone agrees",
                begunInOrder(new int[] {2, 3, 3, 2}, new int[] {1, 2, 4, 1}, new int[] {0, 4, 5, 0}), 0, 1, 2);
        finds("3 alone agrees",
                begunInOrder(new int[] {0, 3, 5, 2}, new int[] {1, 2, 4, 1}, new int[] {2, 4, 3, 0}), 0, 1, 3);
        findsNone("none agrees",
                begunInOrder(new int[] {2, 3, 5, 2}, new int[] {1, 2, 4, 1}, new int[] {0, 4, 3, 0}), 0);
    }

    /** "of several alike by 1, 2, 3 the one that came first, of these the one of the least number". */
    private static void ruleOfSeveralAlike() {
        findsNone("came at once, all alike, the greater number ahead",
                begunInOrder(new int[] {1, 2, 3, 1}, new int[] {1, 2, 3, 0}), 0);
        finds("came at once, the greater number of less work",
                begunInOrder(new int[] {1, 2, 3, 1}, new int[] {1, 2, 4, 0}), 0, 1, 2);
        finds("came at once, the greater number of a lesser kind",
                begunInOrder(new int[] {0, 2, 3, 1}, new int[] {1, 2, 3, 0}), 0, 1, 3);
        finds("came last at once, the least number ahead",
                begunInOrder(new int[] {1, 3, 3, 1}, new int[] {1, 3, 3, 2}, new int[] {1, 2, 3, 0}), 0, 1, 1);
        findsNone("came last at once, the greater number ahead",
                begunInOrder(new int[] {1, 3, 3, 2}, new int[] {1, 3, 3, 1}, new int[] {1, 2, 3, 0}), 0);
        int[] shortest = {3, 3, 1, 0};
        finds("of the same work the one that came first",
                begunInOrder(shortest, new int[] {1, 2, 3, 2}, new int[] {0, 4, 3, 1}), 0, 1, 2);
        findsNone("of the same work the one that came last",
                begunInOrder(shortest, new int[] {1, 4, 3, 1}, new int[] {0, 2, 3, 2}), 0);
        int[] least = {0, 3, 9, 0};
        finds("of the same kind the one that came first",
                begunInOrder(least, new int[] {1, 2, 4, 2}, new int[] {1, 4, 3, 1}), 0, 1, 3);
        findsNone("of the same kind the one that came last",
                begunInOrder(least, new int[] {1, 4, 4, 1}, new int[] {1, 2, 3, 2}), 0);
    }

    /** "is begun with each STEP just when it was SEEN; none, if there are none such". */
    private static void justWhenItWasSeen() {
        QueueReader x = withPlaces(0);
        x.ask(0, 0, 0, 10);
        x.ask(0, 1, 0, 10);
        x.ask(0, 50, 0, 10);
        int[] begun = {0, 10, 50};
        x.trace();
        finds("as played", x, 0, 1, 0);
        for (int i = 0; i < 3; i++) {
            x.seen(i, 0, begun[i] + 1, begun[i] + 10);
            findsNone("a tick late: " + i, x, 0);
            if (i > 0) {
                x.seen(i, 0, begun[i] - 1, begun[i] + 10);
                findsNone("a tick early: " + i, x, 0);
            }
            x.trace();
        }
        x.seen(0, 0, 0, 9);
        findsNone("a helper was free for a tick", x, 0);
        x.seen(0, 0, 0, 11);
        findsNone("two at once, though the second waited", x, 0);
        x.seen(1, 0, 11, 20);
        finds("the wait is as long", x, 0, 1, 0);
        x.seen(1, 0, 1, 20);
        finds("nobody waited", x, 0, 2, 0);
    }

    /** "as WORK what lies between begun and done": by rule 2, too, whatever the step's own WORK is. */
    private static void workIsWhatWasSeen() {
        QueueReader x = withPlaces(0);
        x.ask(0, 0, 0, 1);
        x.ask(1, 2, 0, 1);
        x.ask(0, 1, 0, 1000);
        x.ask(0, 3, 0, 1);
        x.seen(0, 0, 0, 10);
        x.seen(2, 0, 12, 18);
        x.seen(1, 0, 10, 12);
        x.seen(3, 0, 18, 25);
        finds("the least work that was seen", x, 0, 1, 2);
        x.seen(3, 0, 18, 24);
        finds("the same work, came first", x, 0, 1, 2);
        x.seen(3, 0, 18, 23);
        findsNone("less work, begun behind", x, 0);
        QueueReader y = withPlaces(0);
        y.ask(0, 0, 0, 1);
        y.seen(0, 0, 0, 10000000);
        finds("of all ticks", y, 0, 1, 0);
        y.seen(0, 0, 0, 1);
        finds("of one tick", y, 0, 1, 0);
    }

    private static void greatestTicks() {
        QueueReader x = withPlaces(1, 0);
        x.ask(0, 0, 0, 1);
        x.step(0, 1, 1);
        x.seen(0, 0, 0, 9999998);
        x.seen(0, 1, 9999999, 10000000);
        finds("came at 9999999", x, 1, 1, 0);
        x.change(0, 1, 0, 2);
        findsNone("came at 10000000", x, 1);
        x.seen(0, 0, 0, 10000000);
        x.change(0, 1, 0, 1000);
        findsNone("came at 10001000", x, 1);
        finds("done at 10000000", x, 0, 1, 0);
        QueueReader y = withPlaces(0);
        for (int i = 0; i < 9; i++) {
            y.ask(3, 100000, 0, 1);
            y.seen(i, 0, i == 8 ? 9999999 : 100000, i < 8 ? 9999999 : 10000000);
        }
        finds("one waited nearly to the end", y, 0, 8, 0);
    }

    /** "by which the PLACE alone": neither what it has now nor what was seen elsewhere counts. */
    private static void placeAlone() {
        QueueReader x = withPlaces(0, 0);
        x.ask(0, 0, 0, 5);
        x.ask(0, 1, 0, 5);
        x.ask(0, 0, 1, 5);
        x.step(0, 1, 5);
        x.seen(0, 0, 0, 5);
        x.seen(1, 0, 5, 10);
        finds("the other place is not whole", x, 0, 1, 0);
        findsNone("nor found", x, 1);
        x.change(0, 8, 3, 1000);
        finds("whatever helpers, rule and delay it has now", x, 0, 1, 0);
        x.seen(2, 0, 77, 78);
        x.seen(0, 1, 3, 4);
        finds("the other place is seen at odd ticks", x, 0, 1, 0);
        findsNone("which agree with nothing", x, 1);
    }

    private static void manySteps() {
        QueueReader x = Sample.full();
        // Place p has 1 + p helpers; rule (p + 2) % 4 begins, but others may agree where few wait.
        for (int p = 0; p < 5; p++) {
            int place = p;
            int helpers = x.found(p, false);
            int rule = x.found(p, true);
            Due.truth("11: full: place " + p + " helpers", helpers >= 1 && helpers <= 1 + p);
            Due.truth("11: full: place " + p + " rule", rule >= 0 && (helpers < 1 + p || rule <= (p + 2) % 4));
            Due.answer("12: full: as many at once", helpers, () -> x.overlap(place));
        }
        x.unsee(59, 4);
        int last = (59 + 8) % 5;
        findsNone("full: the last step of all is not seen", x, last);
        QueueReader y = withPlaces(0);
        for (int i = 0; i < 60; i++) {
            y.ask(i % 4, i, 0, 10);
            for (int s = 1; s < 5; s++) {
                y.step(i, 0, 10);
            }
        }
        y.change(0, 8, 1, 3);
        y.trace();
        finds("300 steps at one place", y, 0, 8, 1);
        y.unsee(0, 0);
        findsNone("299 of them", y, 0);
    }

    /** "IndexOutOfBoundsException: there is no such PLACE". */
    private static void placesOfFound() {
        for (int places = 0; places <= 5; places++) {
            QueueReader x = withPlaces(new int[places]);
            for (int place : new int[] {-1, places, Integer.MIN_VALUE, Integer.MAX_VALUE}) {
                Due.noIndex("11: place " + place + " of " + places, () -> x.found(place, false));
                Due.noIndex("11: place " + place + " of " + places + ", rule", () -> x.found(place, true));
            }
            for (int place = 0; place < places; place++) {
                findsNone("place " + place + " of " + places, x, place);
            }
        }
    }

    private static void overlapOfNothing() {
        QueueReader x = withPlaces(0, 0);
        Due.answer("12: no steps", 0, () -> x.overlap(0));
        x.ask(0, 0, 0, 5);
        x.ask(0, 0, 1, 5);
        Due.answer("12: none seen", 0, () -> x.overlap(0));
        x.seen(1, 0, 0, 5);
        Due.answer("12: seen elsewhere", 0, () -> x.overlap(0));
        x.seen(0, 0, 0, 5);
        Due.answer("12: one", 1, () -> x.overlap(0));
        x.unsee(0, 0);
        Due.answer("12: none any more", 0, () -> x.overlap(0));
    }

    /** "the most SEEN STEPS there, at some tick, that were begun at it or before, and done behind it". */
    private static void overlapAtATick() {
        int[][] cases = {
            {10, 20, 20, 30, 1}, {10, 20, 19, 30, 2}, {10, 20, 5, 10, 1}, {10, 20, 5, 11, 2},
            {10, 20, 10, 11, 2}, {10, 20, 19, 20, 2}, {10, 20, 10, 20, 2}, {10, 20, 12, 15, 2},
            {10, 20, 9, 10, 1}, {10, 20, 20, 21, 1}, {0, 1, 0, 1, 2}, {0, 1, 1, 2, 1},
            {0, 10000000, 9999999, 10000000, 2}, {0, 9999999, 9999999, 10000000, 1}, {0, 10000000, 0, 1, 2}};
        for (int[] c : cases) {
            QueueReader x = withPlaces(0);
            x.ask(0, 0, 0, 5);
            x.ask(0, 0, 0, 5);
            String about = "12: " + c[0] + " to " + c[1] + " and " + c[2] + " to " + c[3];
            x.seen(0, 0, c[0], c[1]);
            x.seen(1, 0, c[2], c[3]);
            Due.answer(about, c[4], () -> x.overlap(0));
            x.seen(1, 0, c[0], c[1]);
            x.seen(0, 0, c[2], c[3]);
            Due.answer(about + ", the other way round", c[4], () -> x.overlap(0));
        }
        QueueReader y = withPlaces(0);
        int[][] chain = {{0, 10}, {8, 18}, {16, 26}, {24, 34}};
        for (int i = 0; i < 4; i++) {
            y.ask(0, 0, 0, 5);
            y.seen(i, 0, chain[i][0], chain[i][1]);
        }
        Due.answer("12: each with the next one, but no three at one tick", 2, () -> y.overlap(0));
    }

    /** It needs no coming that is known, and no agreement; and may be far more than 8. */
    private static void overlapOfAllThatIsSeen() {
        QueueReader x = withPlaces(0);
        Sample.fill(x, 50, 100000, 1);
        for (int i = 0; i < 50; i++) {
            for (int s = 4; s >= 0; s--) {
                x.seen(i, s, s, 10000000 - i);
            }
        }
        Due.answer("12: 250 at once", 250, () -> x.overlap(0));
        findsNone("far more than 8 at once", x, 0);
        x.unsee(0, 0);
        Due.answer("12: one less, and one of which it is not known when it came", 249, () -> x.overlap(0));
    }

    private static void placesOfOverlap() {
        for (int places = 0; places <= 5; places++) {
            QueueReader x = withPlaces(new int[places]);
            for (int place : new int[] {-1, places, Integer.MIN_VALUE, Integer.MAX_VALUE}) {
                Due.noIndex("12: place " + place + " of " + places, () -> x.overlap(place));
            }
            for (int i = 0; i < places; i++) {
                int place = i;
                x.ask(0, 0, place, 1);
                x.seen(i, 0, 0, 1);
                Due.answer("12: place " + place + " of " + places, 1, () -> x.overlap(place));
            }
        }
    }
}
