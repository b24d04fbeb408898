/** Promises 1 to 3: a new object, place, change. */
public final class PlacesTest {
    public static void main(String[] args) {
        placesAreNumbered();
        changes();
        Due.end();
    }

    private static void placesAreNumbered() {
        QueueReader x = new QueueReader();
        Due.answer("1: a new object has none", 0, () -> x.count(0));
        Due.answer("2: the first", 0, () -> x.place(2, 1, 5));
        Due.answer("2: the second", 1, () -> x.place(2, 1, 5));
        Due.answer("2: two places", 2, () -> x.count(0));
        Due.answer("1: another object has none", 0, () -> new QueueReader().count(0));
    }

    private static void changes() {
        QueueReader x = new QueueReader();
        x.place(1, 0, 0);
        x.place(1, 0, 0);
        x.ask(1, 0, 0, 10);
        x.step(0, 1, 2);
        x.ask(1, 1, 0, 8);
        x.ask(0, 2, 0, 9);
        Due.answer("3: by rule 0 the second is begun first", 10, () -> x.played(1, 0, 1));
        x.change(0, 1, 1, 0);
        Due.answer("3: by rule 1 the last", 10, () -> x.played(2, 0, 1));
        Due.answer("3: by rule 1 the second waits", 19, () -> x.played(1, 0, 1));
        x.change(0, 1, 2, 0);
        Due.answer("3: by rule 2 the shorter", 10, () -> x.played(1, 0, 1));
        x.change(0, 1, 3, 0);
        Due.answer("3: by rule 3 the lesser kind", 10, () -> x.played(2, 0, 1));
        x.change(0, 2, 3, 0);
        Due.answer("3: with two helpers at once", 1, () -> x.played(1, 0, 1));
        x.change(0, 2, 3, 1000);
        Due.answer("3: the delay", 1010, () -> x.played(0, 1, 0));
        Due.answer("3: no place more", 2, () -> x.count(0));
    }
}
