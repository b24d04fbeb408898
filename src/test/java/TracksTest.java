/** Promises 6, 7, 9 and 10: seen, unsee, trace, unlike. */
public final class TracksTest {
    public static void main(String[] args) {
        seenAndUnseen();
        traces();
        unlikes();
        Due.end();
    }

    private static QueueReader twoPlaces() {
        QueueReader x = new QueueReader();
        x.place(1, 0, 2);
        x.place(1, 0, 0);
        x.ask(0, 0, 0, 4);
        x.step(0, 1, 3);
        x.ask(0, 1, 0, 5);
        return x;
    }

    private static void seenAndUnseen() {
        QueueReader x = twoPlaces();
        Due.answer("6: the least ticks", 0, () -> Calls.seen(x, 0, 0, 0, 1));
        Due.answer("6: the greatest ticks", 0, () -> Calls.seen(x, 0, 1, 9999999, 10000000));
        Due.answer("6: seen steps", 2, () -> x.count(3));
        Due.answer("6: of place 0", 1, () -> x.overlap(0));
        Due.answer("6: done where it was told", 1, () -> x.counts(0, true, 1, 2, 1));
        x.seen(0, 0, 0, 4);
        Due.answer("6: told again is one still", 2, () -> x.count(3));
        Due.answer("6: the latest telling counts", 1, () -> x.counts(0, true, 4, 5, 1));
        Due.answer("6: and not the first", 0, () -> x.counts(0, true, 1, 2, 1));
        Due.answer("7: it was seen", 1, () -> Calls.unsee(x, 0, 0));
        Due.answer("7: it is not any more", 0, () -> Calls.unsee(x, 0, 0));
        Due.answer("7: one is left", 1, () -> x.count(3));
        Due.answer("7: nobody at place 0", 0, () -> x.overlap(0));
        Due.answer("7: never seen", 0, () -> Calls.unsee(x, 1, 0));
        x.seen(0, 0, 0, 4);
        Due.answer("7: it can be seen again", 1, () -> Calls.unsee(x, 0, 0));
        Due.answer("6: tracks do not touch the play", 4, () -> x.played(0, 0, 2));
    }

    private static void traces() {
        QueueReader x = twoPlaces();
        x.seen(1, 0, 50, 60);
        Due.answer("9: all steps", 3, x::trace);
        Due.answer("9: all are seen", 3, () -> x.count(3));
        Due.answer("10: as the play has them", 0, x::unlike);
        Due.answer("9: begun and done at place 0", 9, () -> x.counts(0, true, 0, 9, 3));
        Due.answer("9: begun and done at place 1", 3, () -> x.counts(1, true, 6, 9, 3));
        x.step(1, 1, 1);
        Due.answer("9: a new step is not seen", 3, () -> x.count(3));
        Due.answer("9: again", 4, x::trace);
        Due.answer("9: all are seen again", 4, () -> x.count(3));
    }

    private static void unlikes() {
        QueueReader x = twoPlaces();
        Due.answer("10: nothing seen", 0, x::unlike);
        x.seen(0, 0, 0, 4);
        Due.answer("10: alike", 0, x::unlike);
        x.seen(0, 0, 1, 4);
        Due.answer("10: the first of all", 1, x::unlike);
        x.seen(0, 0, 0, 4);
        x.seen(0, 1, 6, 10);
        Due.answer("10: done at another tick", 1, x::unlike);
        x.seen(0, 1, 5, 9);
        Due.answer("10: begun at another tick", 1, x::unlike);
        x.seen(1, 0, 3, 8);
        Due.answer("10: both at other ticks are one step", 2, x::unlike);
        x.seen(0, 1, 6, 9);
        Due.answer("10: told better", 1, x::unlike);
        x.unsee(1, 0);
        Due.answer("10: what is not seen is not unlike", 0, x::unlike);
        x.change(0, 1, 0, 3);
        Due.answer("10: the play has changed", 1, x::unlike);
    }
}
