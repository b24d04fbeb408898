/** Promises 4 and 5: ask, step. */
public final class AsksTest {
    public static void main(String[] args) {
        asks();
        steps();
        Due.end();
    }

    private static void asks() {
        QueueReader x = new QueueReader();
        x.place(8, 0, 0);
        Due.answer("4: the first", 0, () -> x.ask(0, 0, 0, 1));
        Due.answer("4: the second", 1, () -> x.ask(3, 100000, 0, 1000));
        Due.answer("4: asks", 2, () -> x.count(1));
        Due.answer("4: each with a step", 2, () -> x.count(2));
        Due.answer("4: the start", 100000, () -> x.played(1, 0, 0));
        Due.answer("4: the work", 101000, () -> x.played(1, 0, 2));
        Due.noIndex("4: no step 1", () -> x.played(1, 1, 0));
    }

    private static void steps() {
        QueueReader x = new QueueReader();
        x.place(1, 0, 3);
        x.place(1, 0, 0);
        x.ask(0, 0, 0, 2);
        x.ask(0, 0, 1, 9);
        Due.answer("5: step 1", 1, () -> x.step(0, 1, 1000));
        Due.answer("5: it comes behind the delay", 5, () -> x.played(0, 1, 0));
        Due.answer("5: it waits", 9, () -> x.played(0, 1, 1));
        Due.answer("5: its work", 1009, () -> x.played(0, 1, 2));
        Due.answer("5: step 2", 2, () -> x.step(0, 0, 1));
        Due.answer("5: step 3", 3, () -> x.step(0, 0, 1));
        Due.answer("5: step 4", 4, () -> x.step(0, 0, 1));
        Due.answer("5: there are 5", -1, () -> x.step(0, 0, 1));
        Due.answer("5: the other ask's are its own", 1, () -> x.step(1, 0, 1));
        Due.answer("5: steps", 7, () -> x.count(2));
        Due.noIndex("5: the sixth did not come", () -> x.played(0, 5, 0));
    }
}
