/** Promises 11 and 12: found, overlap. */
public final class FoundTest {
    public static void main(String[] args) {
        rulesAreFound();
        leastHelpersThenRule();
        noneAgree();
        firstOfAllIsWrong();
        wholeness();
        worksAreTheSeenOnes();
        oneAskTwiceAtOnce();
        overlaps();
        Due.end();
    }

    private static void finds(String about, QueueReader x, int place, int helpers, int rule) {
        Due.answer("11: " + about + ": helpers", helpers, () -> x.found(place, false));
        Due.answer("11: " + about + ": rule", rule, () -> x.found(place, true));
    }

    /** A net by which each rule has an order of its own. */
    private static QueueReader telling(int helpers, int rule) {
        QueueReader x = new QueueReader();
        x.place(helpers, rule, 0);
        for (int i = 0; i < helpers; i++) {
            x.ask(0, 0, 0, 20);
        }
        for (int i = 0; i < 2; i++) {
            x.ask(2, 1, 0, 7);
            x.ask(3, 2, 0, 5);
            x.ask(1, 3, 0, 9);
            x.ask(3, 4, 0, 8);
        }
        return x;
    }

    private static void rulesAreFound() {
        for (int helpers = 1; helpers <= 4; helpers++) {
            for (int rule = 0; rule <= 3; rule++) {
                QueueReader x = telling(helpers, rule);
                x.trace();
                finds("as played", x, 0, helpers, rule);
                x.change(0, 8, (rule + 1) % 4, 3);
                finds("whatever the place has now", x, 0, helpers, rule);
            }
        }
    }

    private static void leastHelpersThenRule() {
        QueueReader x = new QueueReader();
        x.place(8, 3, 0);
        x.ask(0, 0, 0, 10);
        x.ask(1, 4, 0, 10);
        x.ask(0, 20, 0, 1);
        x.trace();
        finds("nobody waits: the most at once, the first rule", x, 0, 2, 0);
        QueueReader y = new QueueReader();
        y.place(1, 3, 0);
        y.ask(1, 0, 0, 4);
        y.ask(0, 1, 0, 4);
        y.ask(1, 2, 0, 4);
        y.trace();
        finds("several rules agree: the first", y, 0, 1, 0);
        y.change(0, 1, 1, 0);
        y.trace();
        finds("only the last that came", y, 0, 1, 1);
    }

    private static void noneAgree() {
        QueueReader x = new QueueReader();
        x.place(1, 0, 0);
        x.ask(0, 5, 0, 3);
        x.seen(0, 0, 5, 8);
        finds("begun when it came", x, 0, 1, 0);
        x.seen(0, 0, 4, 8);
        finds("begun before it came", x, 0, -1, -1);
        x.seen(0, 0, 6, 8);
        finds("begun too late", x, 0, -1, -1);
        x.ask(0, 5, 0, 3);
        x.seen(0, 0, 5, 7);
        x.seen(1, 0, 7, 9);
        finds("one behind the other", x, 0, 1, 0);
        x.seen(1, 0, 8, 9);
        finds("a tick idle between them", x, 0, -1, -1);
        x.seen(1, 0, 6, 9);
        finds("two at once, but one waited", x, 0, -1, -1);
        x.seen(0, 0, 7, 9);
        x.seen(1, 0, 5, 7);
        finds("the greater number ahead, all alike", x, 0, -1, -1);
        x.seen(1, 0, 5, 6);
        x.seen(0, 0, 6, 8);
        finds("the greater number ahead, for it was shorter", x, 0, 1, 2);
    }

    /** By each rule another one was to be begun ahead of ask 0; the others alone are begun by rule 0. */
    private static void firstOfAllIsWrong() {
        QueueReader x = new QueueReader();
        x.place(1, 0, 0);
        x.ask(3, 2, 0, 9);
        x.ask(1, 1, 0, 2);
        x.ask(0, 3, 0, 1);
        x.ask(0, 0, 0, 10);
        x.seen(3, 0, 0, 10);
        x.seen(0, 0, 10, 19);
        x.seen(1, 0, 19, 21);
        x.seen(2, 0, 21, 22);
        finds("ask 0 was begun too early", x, 0, -1, -1);
        x.seen(0, 0, 12, 21);
        x.seen(1, 0, 10, 12);
        finds("ask 0 was begun by rule 0", x, 0, 1, 0);
    }

    private static void wholeness() {
        QueueReader x = new QueueReader();
        x.place(1, 0, 4);
        x.place(1, 0, 0);
        x.place(1, 0, 0);
        x.ask(0, 0, 0, 3);
        x.step(0, 1, 2);
        x.ask(0, 7, 1, 2);
        finds("nothing is seen", x, 1, -1, -1);
        x.seen(0, 1, 7, 9);
        x.seen(1, 0, 9, 11);
        finds("it is not known when one came", x, 1, -1, -1);
        x.seen(0, 0, 0, 3);
        finds("now it is known", x, 1, 1, 0);
        finds("the other place, too", x, 0, 1, 0);
        finds("a place without a step", x, 2, -1, -1);
        x.change(0, 1, 0, 5);
        finds("by the delay of now it came later", x, 1, -1, -1);
        x.change(0, 1, 0, 3);
        finds("by the delay of now it came ahead and waited", x, 1, -1, -1);
        x.change(0, 1, 0, 4);
        x.unsee(1, 0);
        finds("one is not seen", x, 1, -1, -1);
        finds("which is nothing to the other place", x, 0, 1, 0);
        x.seen(1, 0, 9, 11);
        x.step(1, 0, 1);
        finds("a step more that is not seen", x, 0, -1, -1);
    }

    private static void worksAreTheSeenOnes() {
        QueueReader x = new QueueReader();
        x.place(1, 0, 0);
        x.ask(0, 0, 0, 5);
        x.ask(0, 1, 0, 1);
        x.ask(0, 2, 0, 9);
        x.seen(0, 0, 0, 4);
        x.seen(1, 0, 6, 14);
        x.seen(2, 0, 4, 6);
        finds("by what was seen the last is shortest, and came last", x, 0, 1, 1);
        x.ask(0, 3, 0, 2);
        x.seen(3, 0, 14, 23);
        finds("not the last any more, but the shortest", x, 0, 1, 2);
    }

    /** Tracks may tell that an ask's later step came ahead of the earlier one: the least step is first. */
    private static void oneAskTwiceAtOnce() {
        QueueReader x = new QueueReader();
        x.place(1, 0, 0);
        x.place(1, 0, 0);
        x.ask(0, 1, 0, 4);
        x.step(0, 1, 1);
        x.step(0, 0, 4);
        x.seen(0, 0, 1, 5);
        x.seen(0, 1, 0, 1);
        x.seen(0, 2, 5, 9);
        finds("two steps of an ask that came at once", x, 0, 1, 0);
        finds("begun before it came", x, 1, -1, -1);
    }

    private static void overlaps() {
        QueueReader x = new QueueReader();
        x.place(1, 0, 0);
        x.place(1, 0, 0);
        Due.answer("12: no steps", 0, () -> x.overlap(0));
        x.ask(0, 0, 0, 5);
        x.step(0, 0, 5);
        x.ask(0, 0, 0, 5);
        x.ask(0, 0, 1, 5);
        Due.answer("12: nothing seen", 0, () -> x.overlap(0));
        x.seen(0, 1, 10, 20);
        Due.answer("12: seen, though it is not known when it came", 1, () -> x.overlap(0));
        x.seen(1, 0, 20, 30);
        Due.answer("12: one begun when the other is done", 1, () -> x.overlap(0));
        x.seen(1, 0, 19, 30);
        Due.answer("12: a tick earlier", 2, () -> x.overlap(0));
        x.seen(1, 0, 5, 10);
        Due.answer("12: one done when the other is begun", 1, () -> x.overlap(0));
        x.seen(1, 0, 5, 11);
        Due.answer("12: a tick later", 2, () -> x.overlap(0));
        x.seen(0, 0, 0, 10000000);
        Due.answer("12: one round all", 3, () -> x.overlap(0));
        x.seen(2, 0, 10, 20);
        Due.answer("12: the other place's own", 1, () -> x.overlap(1));
        Due.answer("12: and nothing to this one", 3, () -> x.overlap(0));
        x.unsee(0, 1);
        Due.answer("12: one less", 2, () -> x.overlap(0));
    }
}
