/** Every call on an object that holds all it can: 5 places, 60 asks of 5 steps each, all of them seen. */
public final class FullTest {
    private static final int ASKS = 60;
    private static final int STEPS = 5;

    public static void main(String[] args) {
        onePlace();
        fivePlaces();
        mostTicks();
        Due.end();
    }

    private static QueueReader full(int places, int helpers, int rule, int delay) {
        QueueReader x = new QueueReader();
        for (int i = 0; i < places; i++) {
            x.place(helpers, rule, delay);
        }
        for (int i = 0; i < ASKS; i++) {
            x.ask(i % 4, 0, 0, 10);
            for (int s = 1; s < STEPS; s++) {
                x.step(i, s % places, 10);
            }
        }
        return x;
    }

    private static void onePlace() {
        for (int rule = 0; rule <= 3; rule++) {
            QueueReader x = full(1, 8, rule, 0);
            Due.answer("9: all", 300, x::trace);
            Due.answer("18: all seen", 300, () -> x.count(3));
            Due.answer("10: alike", 0, x::unlike);
            Due.answer("12: eight at once", 8, () -> x.overlap(0));
            Due.answer("11: eight helpers", 8, () -> x.found(0, false));
            // By rule 1 each ask goes on with its next step, and at the end four go through alone.
            Due.answer("18: the end", rule == 1 ? 400 : 380, () -> x.count(4));
            Due.answer("13: came, by play", 300, () -> x.counts(0, false, 0, 1000, 0));
            Due.answer("13: done, by tracks", 300, () -> x.counts(0, true, 0, 1000, 1));
            Due.answer("13: busy, by play", 3000, () -> x.counts(0, false, 0, 1000, 3));
            Due.answer("13: busy, by tracks", 3000, () -> x.counts(0, true, 0, 1000, 3));
            Due.answer("13: nobody is gone but at the end: stay is the total", x.total(),
                    () -> x.counts(0, true, 0, 1000, 2));
            Due.answer("16: narrow", 0, x::narrow);
            Due.answer("17: alone", 50, () -> x.alone(59));
            Due.answer("7: the last", 1, () -> Calls.unsee(x, 59, 4));
            Due.answer("7: is not seen", 299, () -> x.count(3));
            Due.answer("11: not whole", -1, () -> x.found(0, true));
            x.seen(59, 4, 9999999, 10000000);
            Due.answer("10: the last is unlike", 1, x::unlike);
        }
    }

    private static void fivePlaces() {
        QueueReader x = full(5, 1, 0, 1000);
        Due.answer("9: all", 300, x::trace);
        for (int p = 0; p < 5; p++) {
            int place = p;
            Due.answer("12: one at once", 1, () -> x.overlap(place));
            Due.answer("11: one helper", 1, () -> x.found(place, false));
            Due.answer("11: the first rule", 0, () -> x.found(place, true));
            Due.answer("13: came", 60, () -> x.counts(place, false, 0, 10000, 0));
            // The next place lets them through one by one still; at place 4 nobody waits.
            Due.answer("15: place " + p, 0, () -> x.saved(place));
        }
        Due.answer("8: the last step", 4 * 1010 + 600, () -> x.played(59, 4, 2));
        Due.answer("14: total", 60 * 4 * 1010 + 10 * (60 * 61 / 2), x::total);
        Due.answer("16: where all wait first, one more only moves the wait", 0, x::narrow);
        Due.noRoom("2: a place more", () -> x.place(1, 0, 0));
        Due.noRoom("4: an ask more", () -> x.ask(0, 0, 0, 1));
        Due.answer("5: a step more", -1, () -> x.step(59, 4, 1));
    }

    /** Each of the 300 steps comes and is done at a tick of its own. */
    private static void mostTicks() {
        QueueReader x = new QueueReader();
        x.place(1, 0, 1);
        for (int i = 0; i < ASKS; i++) {
            x.ask(0, 1000 * i, 0, 1);
            for (int s = 1; s < STEPS; s++) {
                x.step(i, 0, 1);
            }
        }
        Due.answer("8: the last comes", 59008, () -> x.played(59, 4, 0));
        Due.answer("8: the last is done", 59009, () -> x.played(59, 4, 2));
        Due.answer("14: nobody waits", 60 * 9, x::total);
        Due.answer("15: nothing to save", 0, () -> x.saved(0));
    }
}
