/** Promises 1 to 3: a new object, place, change. */
public final class PlacesTest {
    private static final int[][] WRONG = {
        {0, 0, 0}, {-1, 0, 0}, {9, 0, 0}, {1, -1, 0}, {1, 4, 0}, {1, 0, -1}, {1, 0, 1001},
        {Integer.MIN_VALUE, 0, 0}, {1, Integer.MAX_VALUE, 0}, {1, 0, Integer.MIN_VALUE}};

    public static void main(String[] args) {
        newObject();
        placesAreNumbered();
        wrongPlaces();
        changes();
        wrongChanges();
        Due.end();
    }

    private static void newObject() {
        QueueReader x = new QueueReader();
        for (int what = 0; what <= 4; what++) {
            int w = what;
            Due.answer("1: new count " + what, 0, () -> x.count(w));
        }
        Due.answer("1: new total", 0, x::total);
        Due.answer("1: new narrow", -1, x::narrow);
        Due.answer("1: new trace", 0, x::trace);
        Due.answer("1: new unlike", 0, x::unlike);
        Due.noIndex("1: new overlap", () -> x.overlap(0));
        Due.noIndex("1: new alone", () -> x.alone(0));
        QueueReader y = new QueueReader();
        y.place(1, 0, 0);
        Due.answer("1: two objects share nothing", 0, () -> x.count(0));
    }

    private static void placesAreNumbered() {
        QueueReader x = new QueueReader();
        Due.answer("2: least numbers", 0, () -> x.place(1, 0, 0));
        Due.answer("2: most numbers", 1, () -> x.place(8, 3, 1000));
        Due.answer("2: third", 2, () -> x.place(2, 1, 5));
        Due.answer("2: fourth", 3, () -> x.place(2, 2, 5));
        Due.answer("2: fifth", 4, () -> x.place(2, 2, 5));
        Due.noRoom("2: sixth", () -> x.place(1, 0, 0));
        Due.noArgument("2: a wrong sixth: the argument is told first", () -> x.place(0, 0, 0));
        Due.answer("2: five stay", 5, () -> x.count(0));
    }

    private static void wrongPlaces() {
        QueueReader x = new QueueReader();
        for (int[] w : WRONG) {
            Due.noArgument("2: place " + w[0] + " " + w[1] + " " + w[2], () -> x.place(w[0], w[1], w[2]));
        }
        Due.answer("2: none of them came", 0, () -> x.count(0));
        Due.answer("2: the next is the first", 0, () -> x.place(1, 0, 0));
    }

    private static void changes() {
        QueueReader x = new QueueReader();
        x.place(1, 0, 0);
        x.place(1, 0, 0);
        x.ask(1, 0, 0, 10);
        x.step(0, 1, 2);
        x.ask(1, 1, 0, 8);
        x.ask(0, 2, 0, 9);
        Due.answer("3: by rule 0 the second is begun first", 10, () -> x.played(1, 0, 1));
        x.change(0, 1, 1, 0);
        Due.answer("3: by rule 1 the last", 10, () -> x.played(2, 0, 1));
        Due.answer("3: by rule 1 the second waits", 19, () -> x.played(1, 0, 1));
        x.change(0, 1, 2, 0);
        Due.answer("3: by rule 2 the shorter", 10, () -> x.played(1, 0, 1));
        x.change(0, 1, 3, 0);
        Due.answer("3: by rule 3 the lesser kind", 10, () -> x.played(2, 0, 1));
        x.change(0, 2, 3, 0);
        Due.answer("3: with two helpers at once", 1, () -> x.played(1, 0, 1));
        x.change(0, 2, 3, 1000);
        Due.answer("3: the delay", 1010, () -> x.played(0, 1, 0));
        Due.answer("3: no place more", 2, () -> x.count(0));
    }

    private static void wrongChanges() {
        QueueReader x = new QueueReader();
        Due.noIndex("3: no place", () -> change(x, 0, 1, 0, 0));
        x.place(1, 0, 7);
        x.place(1, 0, 0);
        x.ask(0, 0, 0, 4);
        x.step(0, 1, 1);
        for (int[] w : WRONG) {
            Due.noArgument("3: change " + w[0] + " " + w[1] + " " + w[2], () -> change(x, 0, w[0], w[1], w[2]));
            Due.noIndex("3: the place is told first", () -> change(x, 2, w[0], w[1], w[2]));
        }
        Due.noIndex("3: place -1", () -> change(x, -1, 1, 0, 0));
        Due.noIndex("3: place 5", () -> change(x, 5, 1, 0, 0));
        Due.noIndex("3: a place far off", () -> change(x, Integer.MAX_VALUE, 1, 0, 0));
        Due.answer("3: nothing is changed", 11, () -> x.played(0, 1, 0));
        Due.answer("3: least numbers", 0, () -> change(x, 0, 1, 0, 0));
        Due.answer("3: most numbers", 0, () -> change(x, 0, 8, 3, 1000));
    }

    private static long change(QueueReader x, int place, int helpers, int rule, int delay) {
        x.change(place, helpers, rule, delay);
        return 0;
    }
}
