/** Promises 14 to 18: total, saved, narrow, alone, count. */
public final class TotalsTest {
    public static void main(String[] args) {
        totals();
        savings();
        slowerWithMore();
        aloneTicks();
        countsOfAll();
        Due.end();
    }

    private static void totals() {
        QueueReader x = new QueueReader();
        Due.answer("14: nothing", 0, x::total);
        x.place(1, 0, 9);
        Due.answer("14: no asks", 0, x::total);
        x.ask(0, 100, 0, 5);
        Due.answer("14: less the start, without the last delay", 5, x::total);
        x.step(0, 0, 2);
        Due.answer("14: with the delay between", 16, x::total);
        x.ask(0, 101, 0, 3);
        Due.answer("14: with the wait of another", 16 + 7, x::total);
        x.seen(0, 0, 0, 1000);
        Due.answer("14: tracks are nothing to it", 23, x::total);
    }

    private static void savings() {
        QueueReader x = new QueueReader();
        x.place(1, 0, 0);
        x.place(1, 0, 0);
        for (int i = 0; i < 3; i++) {
            x.ask(0, 0, 0, 2);
            x.step(i, 1, 5);
        }
        Due.answer("14: total", 7 + 12 + 17, x::total);
        Due.answer("15: at place 0", 0, () -> x.saved(0));
        Due.answer("15: at place 1", 8, () -> x.saved(1));
        Due.answer("16: narrow", 1, x::narrow);
        Due.answer("15: nothing is changed by it", 36, x::total);
        Due.answer("15: nor what is played", 12, () -> x.played(2, 1, 1));
        x.change(1, 8, 0, 0);
        Due.answer("15: now place 0 saves", 4, () -> x.saved(0));
        Due.answer("15: and place 1 nothing", 0, () -> x.saved(1));
        Due.answer("16: narrow is place 0", 0, x::narrow);
    }

    private static void slowerWithMore() {
        QueueReader x = new QueueReader();
        x.place(1, 0, 0);
        x.place(1, 1, 3);
        x.ask(2, 0, 0, 8);
        x.ask(2, 1, 0, 7);
        x.step(1, 1, 8);
        x.step(1, 1, 3);
        x.ask(0, 4, 1, 8);
        x.step(2, 0, 5);
        x.ask(2, 5, 1, 3);
        x.step(3, 0, 6);
        Due.answer("15: one more at place 0 is slower", -3, () -> x.saved(0));
        Due.answer("15: one more at place 1, too", -1, () -> x.saved(1));
        Due.answer("16: the least loss is the most saved", 1, x::narrow);
        x.place(1, 0, 0);
        Due.answer("16: nothing saved is more than a loss", 2, x::narrow);
    }

    private static void aloneTicks() {
        QueueReader x = new QueueReader();
        x.place(1, 0, 9);
        x.place(1, 0, 4);
        x.ask(0, 7, 0, 5);
        x.ask(0, 7, 0, 5);
        Due.answer("17: without a wait, without the last delay", 12, () -> x.alone(1));
        x.step(1, 1, 3);
        Due.answer("17: the delay between is the place's before", 24, () -> x.alone(1));
        x.step(1, 1, 1);
        Due.answer("17: the second delay", 29, () -> x.alone(1));
        Due.answer("17: the other ask", 12, () -> x.alone(0));
        x.change(0, 1, 0, 0);
        Due.answer("17: the delay of now", 20, () -> x.alone(1));
        QueueReader y = new QueueReader();
        y.place(1, 0, 1000);
        y.ask(0, 100000, 0, 1000);
        for (int s = 1; s < 5; s++) {
            y.step(0, 0, 1000);
        }
        Due.answer("17: the greatest", 109000, () -> y.alone(0));
    }

    private static void countsOfAll() {
        QueueReader x = new QueueReader();
        x.place(2, 0, 50);
        x.place(1, 0, 0);
        Due.answer("18: no asks are done at 0", 0, () -> x.count(4));
        x.ask(0, 10, 0, 5);
        x.ask(0, 12, 0, 9);
        x.ask(0, 0, 1, 1);
        x.step(2, 0, 2);
        Due.answer("18: places", 2, () -> x.count(0));
        Due.answer("18: asks", 3, () -> x.count(1));
        Due.answer("18: steps", 4, () -> x.count(2));
        Due.answer("18: none seen", 0, () -> x.count(3));
        Due.answer("18: all done, without the delay behind", 21, () -> x.count(4));
        x.seen(2, 1, 1, 1000);
        Due.answer("18: one seen", 1, () -> x.count(3));
        Due.answer("18: tracks are nothing to the play", 21, () -> x.count(4));
        x.step(0, 1, 3);
        Due.answer("18: a later end", 68, () -> x.count(4));
        int[] wrong = {-1, 5, 6, Integer.MIN_VALUE, Integer.MAX_VALUE};
        for (int what : wrong) {
            Due.answer("18: what " + what, -1, () -> x.count(what));
        }
    }
}
