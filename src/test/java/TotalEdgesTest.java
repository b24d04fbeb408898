/** Promises 14 to 18 at their edges. */
public final class TotalEdgesTest {
    public static void main(String[] args) {
        totalOfNothing();
        totalOfOne();
        greatestTotal();
        savedOfNothing();
        placesOfSaved();
        aNinthHelper();
        savedBelowNothing();
        narrowWithoutPlaces();
        narrowOfSeveral();
        asksOfAlone();
        aloneWithOneStepAndFive();
        aloneNeverWaits();
        countOfNothing();
        countOfAFullObject();
        whatsOfCount();
        tickAtWhichAllIsDone();
        Due.end();
    }

    /** "TOTAL (0 without ASKS)". */
    private static void totalOfNothing() {
        for (int places = 0; places <= 5; places++) {
            QueueReader x = Sample.withPlaces(places, 1);
            Due.answer("14: " + places + " places, no asks", 0, x::total);
        }
    }

    /** "when the last STEP is done less START". */
    private static void totalOfOne() {
        for (int start : new int[] {0, 1, 100000}) {
            QueueReader x = new QueueReader();
            x.place(1, 0, 1000);
            x.ask(0, start, 0, 1);
            Due.answer("14: one step from " + start + ", no delay behind it", 1, x::total);
            x.step(0, 0, 1000);
            Due.answer("14: two steps, a delay between", 2001, x::total);
            x.ask(3, start, 0, 5);
            Due.answer("14: two asks, one of them waits", 2001 + 6, x::total);
        }
    }

    /** 60 asks of 5 steps of the most work, one helper: the last step of ask i is done at 240000 + 1000 (i + 1). */
    private static void greatestTotal() {
        QueueReader x = Sample.withPlaces(1, 1);
        Sample.fill(x, 60, 0, 1000);
        Due.answer("14: full", 60 * 240000L + 1000L * (60 * 61 / 2), x::total);
        Due.answer("18: full: done", 300000, () -> x.count(4));
        // Two at once: asks 2 j and 2 j + 1 are done at 120000 + 1000 (j + 1).
        Due.answer("15: full", 60 * 120000L + 1000L * (60 * 61 / 2 - 30 * 31), () -> x.saved(0));
        Due.answer("16: full", 0, x::narrow);
    }

    private static void savedOfNothing() {
        for (int places = 1; places <= 5; places++) {
            QueueReader x = Sample.withPlaces(places, 1);
            for (int i = 0; i < places; i++) {
                int place = i;
                Due.answer("15: no asks, place " + i, 0, () -> x.saved(place));
            }
        }
        QueueReader x = Sample.withPlaces(1, 1);
        x.ask(0, 0, 0, 5);
        Due.answer("15: nobody waits", 0, () -> x.saved(0));
        x.ask(0, 5, 0, 5);
        Due.answer("15: comes when the helper is free", 0, () -> x.saved(0));
        x.ask(0, 9, 0, 5);
        Due.answer("15: one waits a tick", 1, () -> x.saved(0));
    }

    /** "IndexOutOfBoundsException: there is no such PLACE". */
    private static void placesOfSaved() {
        for (int places = 0; places <= 5; places++) {
            QueueReader x = Sample.withPlaces(places, 1);
            for (int i = 0; i < places; i++) {
                x.ask(0, 0, i, 3 + i);
                x.ask(0, 0, i, 3 + i);
            }
            for (int place : new int[] {-1, places, Integer.MIN_VALUE, Integer.MAX_VALUE}) {
                Due.noIndex("15: place " + place + " of " + places, () -> x.saved(place));
            }
            for (int i = 0; i < places; i++) {
                int place = i;
                Due.answer("15: place " + i + " of " + places, 3 + i, () -> x.saved(place));
            }
        }
    }

    /** "with one HELPER more there (a ninth, too)": just one, at just that place. */
    private static void aNinthHelper() {
        for (int helpers = 1; helpers <= 8; helpers++) {
            QueueReader x = Sample.withPlaces(2, helpers);
            for (int i = 0; i < helpers + 2; i++) {
                x.ask(0, 0, 0, 10);
                x.ask(0, 0, 1, 20);
            }
            // With one helper two wait, the second one for twice as long.
            int one = helpers == 1 ? 20 : 10;
            Due.answer("15: one more than " + helpers + " at place 0", one, () -> x.saved(0));
            Due.answer("15: one more than " + helpers + " at place 1", 2 * one, () -> x.saved(1));
            Due.answer("16: one more than " + helpers, 1, x::narrow);
        }
        QueueReader y = Sample.withPlaces(1, 8);
        for (int i = 0; i < 9; i++) {
            y.ask(0, 0, 0, 7);
        }
        Due.answer("15: the ninth", 7, () -> y.saved(0));
        Due.answer("15: the place has eight still", 7, () -> y.played(8, 0, 1));
        Due.answer("15: asked again", 7, () -> y.saved(0));
        Due.answer("14: the total is that of eight", 8 * 7 + 14, y::total);
        Due.noArgument("3: nine can not be given", () -> Calls.change(y, 0, 9, 0, 0));
    }

    /** One helper more can make the whole slower: what is saved is below 0 then. */
    private static void savedBelowNothing() {
        QueueReader x = new QueueReader();
        x.place(1, 3, 3);
        x.place(1, 1, 1);
        x.ask(3, 3, 1, 8);
        x.ask(0, 3, 0, 7);
        x.ask(1, 3, 0, 3);
        x.step(2, 1, 7);
        x.ask(0, 5, 1, 4);
        x.step(3, 0, 8);
        Due.answer("15: below 0", -2, () -> x.saved(0));
        Due.answer("15: below 0, too", -2, () -> x.saved(1));
        Due.answer("16: of two below 0 the least number", 0, x::narrow);
        x.place(1, 0, 0);
        Due.answer("16: 0 is more", 2, x::narrow);
    }

    /** "NONE without PLACES". */
    private static void narrowWithoutPlaces() {
        QueueReader x = new QueueReader();
        Due.answer("16: no places", -1, x::narrow);
        x.place(1, 0, 0);
        Due.answer("16: one place, no asks", 0, x::narrow);
        x.ask(0, 0, 0, 1);
        Due.answer("16: one place, nothing to save", 0, x::narrow);
    }

    /** "of several the least number". */
    private static void narrowOfSeveral() {
        for (int first = 0; first < 5; first++) {
            QueueReader x = Sample.withPlaces(5, 1);
            Due.answer("16: nothing to save at five", 0, x::narrow);
            for (int place = first; place < 5; place++) {
                x.ask(0, 0, place, 4);
                x.ask(0, 0, place, 4);
            }
            Due.answer("16: as much from " + first + " on", first, x::narrow);
            x.ask(0, 0, 4, 1);
            Due.answer("16: the last saves most", 4, x::narrow);
        }
        QueueReader y = Sample.withPlaces(3, 1);
        for (int place = 0; place < 3; place++) {
            y.ask(0, 0, place, place == 1 ? 6 : 5);
            y.ask(0, 0, place, 5);
        }
        Due.answer("16: one in the middle saves one more", 1, y::narrow);
    }

    /** "IndexOutOfBoundsException: there is no such .. ASK". */
    private static void asksOfAlone() {
        QueueReader x = Sample.withPlaces(1, 1);
        Due.noIndex("17: no asks", () -> x.alone(0));
        for (int i = 0; i < 60; i++) {
            int ask = i;
            Due.noIndex("17: ask " + i + " is not there yet", () -> x.alone(ask));
            x.ask(0, i, 0, 2);
            Due.answer("17: ask " + i, i + 2, () -> x.alone(ask));
        }
        for (int ask : new int[] {-1, 60, 61, Integer.MIN_VALUE, Integer.MAX_VALUE}) {
            Due.noIndex("17: ask " + ask + " of 60", () -> x.alone(ask));
        }
    }

    /** "(all WORK, and DELAYS between)": none behind the last. */
    private static void aloneWithOneStepAndFive() {
        QueueReader x = new QueueReader();
        int[] delays = {1, 20, 300, 1000, 999};
        for (int delay : delays) {
            x.place(1, 0, delay);
        }
        x.ask(0, 100000, 0, 1000);
        Due.answer("17: one step", 101000, () -> x.alone(0));
        int done = 101000;
        for (int s = 1; s < 5; s++) {
            x.step(0, s, s);
            done += delays[s - 1] + s;
            Due.answer("17: steps 0 to " + s, done, () -> x.alone(0));
        }
        Due.answer("5: no sixth", -1, () -> x.step(0, 0, 1000));
        Due.answer("17: five steps still", done, () -> x.alone(0));
        Due.answer("8: as played, without others", done, () -> x.played(0, 4, 2));
        QueueReader y = new QueueReader();
        y.place(1, 0, 1000);
        y.ask(0, 100000, 0, 1000);
        for (int s = 1; s < 5; s++) {
            y.step(0, 0, 1000);
        }
        Due.answer("17: the greatest", 109000, () -> y.alone(0));
        y.change(0, 1, 0, 0);
        Due.answer("17: the greatest without delay", 105000, () -> y.alone(0));
    }

    /** "when it would be done if it never had to wait". */
    private static void aloneNeverWaits() {
        QueueReader x = Sample.withPlaces(1, 1);
        x.ask(0, 0, 0, 1000);
        x.ask(0, 0, 0, 1);
        Due.answer("8: it waits", 1001, () -> x.played(1, 0, 2));
        Due.answer("17: it would be done", 1, () -> x.alone(1));
        x.seen(1, 0, 50, 60);
        Due.answer("17: whatever was seen", 1, () -> x.alone(1));
    }

    private static void countOfNothing() {
        QueueReader x = new QueueReader();
        for (int what = 0; what <= 4; what++) {
            int w = what;
            Due.answer("18: nothing: what " + what, 0, () -> x.count(w));
        }
        x.place(8, 3, 1000);
        Due.answer("18: one place", 1, () -> x.count(0));
        Due.answer("18: done at 0 without asks", 0, () -> x.count(4));
    }

    private static void countOfAFullObject() {
        QueueReader x = Sample.full();
        Due.answer("18: full: places", 5, () -> x.count(0));
        Due.answer("18: full: asks", 60, () -> x.count(1));
        Due.answer("18: full: steps", 300, () -> x.count(2));
        Due.answer("18: full: seen", 300, () -> x.count(3));
        int last = 0;
        for (int ask = 0; ask < 60; ask++) {
            last = Math.max(last, x.played(ask, 4, 2));
        }
        Due.answer("18: full: done", last, () -> x.count(4));
        x.unsee(0, 0);
        x.unsee(59, 4);
        Due.answer("18: full: two less are seen", 298, () -> x.count(3));
        Due.answer("18: full: steps as before", 300, () -> x.count(2));
    }

    /** "NONE for another what." */
    private static void whatsOfCount() {
        for (int what : new int[] {-1, 5, 6, Integer.MIN_VALUE, Integer.MAX_VALUE}) {
            Due.answer("18: nothing: what " + what, -1, () -> new QueueReader().count(what));
            Due.answer("18: small: what " + what, -1, () -> Sample.small().count(what));
            Due.answer("18: full: what " + what, -1, () -> Sample.full().count(what));
        }
        QueueReader x = Sample.small();
        int[] want = {2, 3, 6, 5, 20};
        for (int what = 0; what <= 4; what++) {
            int w = what;
            Due.answer("18: small: what " + what, want[what], () -> x.count(w));
        }
    }

    /** "the tick at which all is done by PLAY": no delay behind the last, whichever ask that is of. */
    private static void tickAtWhichAllIsDone() {
        QueueReader x = new QueueReader();
        x.place(2, 0, 1000);
        x.ask(0, 0, 0, 1);
        Due.answer("18: the least", 1, () -> x.count(4));
        x.ask(0, 100000, 0, 1000);
        Due.answer("18: the last ask is the last", 101000, () -> x.count(4));
        x.ask(0, 5, 0, 1);
        Due.answer("18: the last ask is not the last", 101000, () -> x.count(4));
        x.seen(0, 0, 0, 10000000);
        Due.answer("18: whatever was seen", 101000, () -> x.count(4));
    }
}
