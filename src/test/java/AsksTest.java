/** Promises 4 and 5: ask, step. */
public final class AsksTest {
    private static final int[][] WRONG = {
        {-1, 0, 1}, {4, 0, 1}, {0, -1, 1}, {0, 100001, 1}, {0, 0, 0}, {0, 0, -1}, {0, 0, 1001},
        {Integer.MIN_VALUE, 0, 1}, {0, Integer.MAX_VALUE, 1}, {0, 0, Integer.MIN_VALUE}};

    public static void main(String[] args) {
        asks();
        wrongAsks();
        fullOfAsks();
        steps();
        wrongSteps();
        Due.end();
    }

    private static void asks() {
        QueueReader x = new QueueReader();
        x.place(8, 0, 0);
        Due.answer("4: least numbers", 0, () -> x.ask(0, 0, 0, 1));
        Due.answer("4: most numbers", 1, () -> x.ask(3, 100000, 0, 1000));
        Due.answer("4: asks", 2, () -> x.count(1));
        Due.answer("4: each with a step", 2, () -> x.count(2));
        Due.answer("4: the start", 100000, () -> x.played(1, 0, 0));
        Due.answer("4: the work", 101000, () -> x.played(1, 0, 2));
        Due.noIndex("4: no step 1", () -> x.played(1, 1, 0));
    }

    private static void wrongAsks() {
        QueueReader x = new QueueReader();
        Due.noIndex("4: without places", () -> x.ask(0, 0, 0, 1));
        x.place(1, 0, 0);
        for (int[] w : WRONG) {
            Due.noArgument("4: ask " + w[0] + " " + w[1] + " " + w[2], () -> x.ask(w[0], w[1], 0, w[2]));
            Due.noIndex("4: the place is told first", () -> x.ask(w[0], w[1], 1, w[2]));
        }
        Due.noIndex("4: place -1", () -> x.ask(0, 0, -1, 1));
        Due.noIndex("4: place 5", () -> x.ask(0, 0, 5, 1));
        Due.answer("4: none came", 0, () -> x.count(1));
        Due.answer("4: no step came", 0, () -> x.count(2));
    }

    private static void fullOfAsks() {
        QueueReader x = new QueueReader();
        x.place(1, 0, 0);
        for (int i = 0; i < 60; i++) {
            Due.answer("4: ask " + i, i, () -> x.ask(0, 0, 0, 1));
        }
        Due.noRoom("4: the 61st", () -> x.ask(0, 0, 0, 1));
        Due.noArgument("4: a wrong 61st: the argument is told first", () -> x.ask(4, 0, 0, 1));
        Due.noIndex("4: a wrong 61st: the place is told first", () -> x.ask(4, 0, 1, 1));
        Due.answer("4: 60 stay", 60, () -> x.count(1));
        Due.answer("4: 60 steps stay", 60, () -> x.count(2));
        for (int i = 0; i < 60; i++) {
            int ask = i;
            for (int s = 1; s <= 5; s++) {
                Due.answer("5: step " + s + " of " + i, s < 5 ? s : -1, () -> x.step(ask, 0, 1));
            }
        }
        Due.answer("5: all steps", 300, () -> x.count(2));
        Due.answer("5: the last is done when all are", 300, () -> x.count(4));
    }

    private static void steps() {
        QueueReader x = new QueueReader();
        x.place(1, 0, 3);
        x.place(1, 0, 0);
        x.ask(0, 0, 0, 2);
        x.ask(0, 0, 1, 9);
        Due.answer("5: step 1", 1, () -> x.step(0, 1, 1000));
        Due.answer("5: it comes behind the delay", 5, () -> x.played(0, 1, 0));
        Due.answer("5: it waits", 9, () -> x.played(0, 1, 1));
        Due.answer("5: its work", 1009, () -> x.played(0, 1, 2));
        Due.answer("5: step 2", 2, () -> x.step(0, 0, 1));
        Due.answer("5: step 3", 3, () -> x.step(0, 0, 1));
        Due.answer("5: step 4", 4, () -> x.step(0, 0, 1));
        Due.answer("5: there are 5", -1, () -> x.step(0, 0, 1));
        Due.answer("5: the other ask's are its own", 1, () -> x.step(1, 0, 1));
        Due.answer("5: steps", 7, () -> x.count(2));
        Due.noIndex("5: the sixth did not come", () -> x.played(0, 5, 0));
    }

    private static void wrongSteps() {
        QueueReader x = new QueueReader();
        x.place(1, 0, 0);
        Due.noIndex("5: no asks", () -> x.step(0, 0, 1));
        x.ask(0, 0, 0, 1);
        Due.noIndex("5: ask 1", () -> x.step(1, 0, 1));
        Due.noIndex("5: ask -1", () -> x.step(-1, 0, 1));
        Due.noIndex("5: place 1", () -> x.step(0, 1, 1));
        Due.noIndex("5: place -1", () -> x.step(0, -1, 1));
        Due.noIndex("5: the ask ahead of the work", () -> x.step(60, 0, 0));
        Due.noIndex("5: the place ahead of the work", () -> x.step(0, 5, 0));
        Due.noArgument("5: work 0", () -> x.step(0, 0, 0));
        Due.noArgument("5: work 1001", () -> x.step(0, 0, 1001));
        Due.answer("5: none came", 1, () -> x.count(2));
        for (int i = 1; i < 5; i++) {
            x.step(0, 0, 1);
        }
        Due.noArgument("5: a wrong work, though there are 5", () -> x.step(0, 0, 0));
        Due.noIndex("5: a wrong place, though there are 5", () -> x.step(0, 1, 1));
    }
}
