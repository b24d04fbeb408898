/** Promise 8: played, and with it each rule of the play. */
public final class PlayTest {
    public static void main(String[] args) {
        oneAsk();
        tiesOfRules();
        sameTick();
        helpersAndReturns();
        greatNumbers();
        Due.end();
    }

    private static void times(String about, QueueReader x, int ask, int step, int came, int begun, int done) {
        Due.answer("8: " + about + ": came", came, () -> x.played(ask, step, 0));
        Due.answer("8: " + about + ": begun", begun, () -> x.played(ask, step, 1));
        Due.answer("8: " + about + ": done", done, () -> x.played(ask, step, 2));
    }

    private static void oneAsk() {
        QueueReader x = new QueueReader();
        x.place(1, 0, 5);
        x.place(1, 0, 0);
        x.ask(0, 7, 0, 3);
        x.step(0, 1, 2);
        x.step(0, 0, 4);
        times("first step", x, 0, 0, 7, 7, 10);
        times("behind the delay of the place before", x, 0, 1, 15, 15, 17);
        times("without a delay at the same tick", x, 0, 2, 17, 17, 21);
    }

    /** A helper is busy until 10; who waits then is told apart by one thing after the other. */
    private static QueueReader waiting(int rule, int[]... asks) {
        QueueReader x = new QueueReader();
        x.place(1, rule, 0);
        x.ask(0, 0, 0, 10);
        for (int[] a : asks) {
            x.ask(a[0], a[1], 0, a[2]);
        }
        return x;
    }

    private static void order(String about, QueueReader x, int... asks) {
        for (int i = 1; i < asks.length; i++) {
            int before = asks[i - 1];
            int behind = asks[i];
            Due.truth("8: " + about + ": " + before + " ahead of " + behind,
                    x.played(before, 0, 1) < x.played(behind, 0, 1));
        }
    }

    private static void tiesOfRules() {
        int[][] asks = {{2, 3, 5}, {1, 2, 5}, {1, 2, 4}, {2, 1, 4}, {1, 3, 4}};
        order("came first, then number", waiting(0, asks), 0, 4, 2, 3, 1, 5);
        order("came last, then the least number", waiting(1, asks), 0, 1, 5, 2, 3, 4);
        order("least work, then came first", waiting(2, asks), 0, 4, 3, 5, 2, 1);
        order("least kind, then came first, then number", waiting(3, asks), 0, 2, 3, 5, 4, 1);
        int[] alike = {1, 2, 3};
        for (int rule = 0; rule <= 3; rule++) {
            order("all alike by rule " + rule, waiting(rule, alike, alike, alike), 0, 1, 2, 3);
        }
    }

    private static void sameTick() {
        QueueReader x = new QueueReader();
        x.place(1, 0, 0);
        x.place(1, 3, 0);
        x.ask(3, 0, 1, 4);
        x.ask(2, 1, 1, 4);
        x.ask(0, 0, 0, 4);
        x.step(2, 1, 1);
        times("who comes at the tick at which a helper is freed may be begun", x, 2, 1, 4, 4, 5);
        times("and goes ahead of who waited, by the rule", x, 1, 0, 1, 5, 9);
        QueueReader y = new QueueReader();
        y.place(1, 1, 0);
        y.ask(0, 0, 0, 3);
        y.step(0, 0, 2);
        y.ask(0, 1, 0, 6);
        times("who is done comes again ahead of the choice", y, 0, 1, 3, 3, 5);
        times("so that the one that came last is the same", y, 1, 0, 1, 5, 11);
    }

    private static void helpersAndReturns() {
        QueueReader x = new QueueReader();
        x.place(2, 2, 1);
        x.ask(0, 0, 0, 5);
        x.ask(0, 0, 0, 5);
        x.ask(0, 0, 0, 3);
        x.ask(0, 1, 0, 2);
        x.step(2, 0, 1);
        times("the shortest is begun first", x, 2, 0, 0, 0, 3);
        times("of two alike the least number", x, 0, 0, 0, 0, 5);
        times("the next that is free takes the shortest", x, 3, 0, 1, 3, 5);
        times("back at the same place behind its delay", x, 2, 1, 4, 5, 6);
        times("the rest", x, 1, 0, 0, 5, 10);
        x.change(0, 8, 2, 1);
        times("helpers enough: nobody waits", x, 1, 0, 0, 0, 5);
    }

    private static void greatNumbers() {
        QueueReader x = new QueueReader();
        x.place(1, 0, 1000);
        Sample.fill(x, 60, 100000, 1000);
        times("the first of all", x, 0, 0, 100000, 100000, 101000);
        times("the last of all", x, 59, 4, 341000, 399000, 400000);
    }
}
