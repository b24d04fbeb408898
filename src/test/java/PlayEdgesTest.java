/** Promise 8 at its edges: each sentence of PLAY, and which numbers played takes. */
public final class PlayEdgesTest {
    public static void main(String[] args) {
        comesAtStart();
        comesBehindTheDelay();
        doneWorkTicksLater();
        freedAtTheTick();
        thereAtTheTick();
        atTheTickFromAnyPlace();
        backAtTheTick();
        asLongAsOneIsFree();
        onlyWhoWaitsThere();
        cameFirst();
        cameLast();
        leastWorkThere();
        leastKind();
        numbersOfPlayed();
        playIsOfNow();
        Due.end();
    }

    private static void times(String about, QueueReader x, int ask, int step, int came, int begun, int done) {
        Due.answer("8: " + about + ": came", came, () -> x.played(ask, step, 0));
        Due.answer("8: " + about + ": begun", begun, () -> x.played(ask, step, 1));
        Due.answer("8: " + about + ": done", done, () -> x.played(ask, step, 2));
    }

    private static QueueReader onePlace(int helpers, int rule, int delay) {
        QueueReader x = new QueueReader();
        x.place(helpers, rule, delay);
        return x;
    }

    /** "an ASK comes to the PLACE of its STEP 0 at START". */
    private static void comesAtStart() {
        for (int start : new int[] {0, 1, 99999, 100000}) {
            QueueReader x = onePlace(1, 0, 1000);
            x.ask(0, start, 0, 7);
            times("start " + start + ", without the delay of its place", x, 0, 0, start, start, start + 7);
        }
    }

    /** "to that of each next STEP when the one before is done and DELAY of that one's PLACE is past". */
    private static void comesBehindTheDelay() {
        for (int delay : new int[] {0, 1, 999, 1000}) {
            QueueReader x = onePlace(1, 0, delay);
            x.place(1, 0, 13);
            x.ask(0, 3, 0, 4);
            x.step(0, 1, 5);
            x.step(0, 0, 6);
            times("delay " + delay, x, 0, 1, 7 + delay, 7 + delay, 12 + delay);
            times("then the other place's", x, 0, 2, 25 + delay, 25 + delay, 31 + delay);
        }
        QueueReader y = onePlace(1, 0, 1);
        y.ask(0, 0, 0, 4);
        y.step(0, 0, 2);
        y.ask(0, 1, 0, 9);
        times("delay counts from done, and the wait behind it", y, 0, 1, 5, 13, 15);
    }

    /** "What is begun at a tick is done WORK ticks later." */
    private static void doneWorkTicksLater() {
        for (int work : new int[] {1, 2, 999, 1000}) {
            QueueReader x = onePlace(1, 0, 0);
            x.ask(0, 10, 0, work);
            x.ask(0, 10, 0, work);
            times("work " + work, x, 0, 0, 10, 10, 10 + work);
            times("work " + work + " behind it", x, 1, 0, 10, 10 + work, 10 + 2 * work);
        }
    }

    /** "what is done at it is done (its helper is free)": who waits is begun at that tick. */
    private static void freedAtTheTick() {
        QueueReader x = onePlace(1, 0, 0);
        x.ask(0, 0, 0, 5);
        x.ask(0, 4, 0, 3);
        x.ask(0, 8, 0, 2);
        times("who waits", x, 1, 0, 4, 5, 8);
        times("who comes at that tick", x, 2, 0, 8, 8, 10);
        QueueReader y = onePlace(1, 0, 0);
        y.ask(0, 0, 0, 5);
        y.ask(0, 6, 0, 3);
        times("who comes a tick later", y, 1, 0, 6, 6, 9);
    }

    /** "who comes at it is there", ahead of the choice: by each rule but 0 it may be taken first. */
    private static void thereAtTheTick() {
        for (int rule : new int[] {0, 1, 2, 3}) {
            QueueReader x = onePlace(1, rule, 0);
            x.ask(0, 0, 0, 10);
            x.ask(1, 9, 0, 4);
            x.ask(0, 10, 0, 3);
            times("rule " + rule + ": comes when the helper is freed", x, 2, 0, 10, rule == 0 ? 14 : 10, rule == 0 ? 17 : 13);
            QueueReader y = onePlace(1, rule, 0);
            y.ask(0, 0, 0, 10);
            y.ask(1, 9, 0, 4);
            y.ask(0, 11, 0, 3);
            times("rule " + rule + ": comes a tick too late", y, 2, 0, 11, 14, 17);
        }
    }

    /** "comes there at that tick, and may be begun at it": to a place of a lesser or a greater number. */
    private static void atTheTickFromAnyPlace() {
        for (int first = 0; first <= 1; first++) {
            int other = 1 - first;
            QueueReader x = onePlace(1, 3, 0);
            x.place(1, 3, 0);
            x.ask(3, 0, other, 6);
            x.ask(3, 1, other, 6);
            x.ask(0, 0, first, 6);
            x.step(2, other, 2);
            times("from place " + first + ", at once", x, 2, 1, 6, 6, 8);
            times("ahead of who waited", x, 1, 0, 1, 8, 14);
        }
    }

    /** Who is done comes back to the same place at the tick, and is one of those that wait. */
    private static void backAtTheTick() {
        int[] begun = {13, 10, 10, 10};
        for (int rule : new int[] {0, 1, 2, 3}) {
            QueueReader x = onePlace(1, rule, 0);
            x.ask(0, 0, 0, 10);
            x.step(0, 0, 2);
            x.ask(1, 4, 0, 3);
            times("rule " + rule + ": back at once", x, 0, 1, 10, begun[rule], begun[rule] + 2);
            x.change(0, 1, rule, 1);
            times("rule " + rule + ": back a tick later", x, 0, 1, 11, 13, 15);
        }
    }

    /** "as long as it has a free helper and an ASK that waits there". */
    private static void asLongAsOneIsFree() {
        for (int helpers = 1; helpers <= 8; helpers++) {
            QueueReader x = onePlace(helpers, 0, 0);
            for (int i = 0; i < 20; i++) {
                x.ask(0, 0, 0, 5);
            }
            for (int i = 0; i < 20; i++) {
                int ask = i;
                int turn = i / helpers;
                Due.answer("8: helpers " + helpers + ", ask " + i, 5 * turn, () -> x.played(ask, 0, 1));
            }
        }
    }

    private static void onlyWhoWaitsThere() {
        QueueReader x = onePlace(1, 0, 0);
        x.place(1, 0, 0);
        x.ask(0, 0, 0, 9);
        x.ask(0, 1, 0, 9);
        x.ask(0, 2, 1, 9);
        times("a helper of another place is no help", x, 1, 0, 1, 9, 18);
        times("nor is a queue elsewhere a wait", x, 2, 0, 2, 2, 11);
    }

    /** The helper of place 0 is busy up to 10, and each ask {kind, start, work} waits for it then. */
    private static QueueReader waiting(int rule, int[]... asks) {
        QueueReader x = onePlace(1, rule, 0);
        x.ask(0, 0, 0, 10);
        for (int[] a : asks) {
            x.ask(a[0], a[1], 0, a[2]);
        }
        return x;
    }

    private static void first(String about, QueueReader x, int ask) {
        Due.answer("8: " + about, 10, () -> x.played(ask, 0, 1));
    }

    /** "by RULE 0 the one that came first .. of these the one of the least number (by 0, too ..)". */
    private static void cameFirst() {
        first("rule 0: came a tick ahead", waiting(0, new int[] {0, 3, 1}, new int[] {3, 2, 9}), 2);
        first("rule 0: came at once, the least number", waiting(0, new int[] {3, 2, 9}, new int[] {0, 2, 1}), 1);
        first("rule 0: came at once, behind one that came later",
                waiting(0, new int[] {0, 3, 1}, new int[] {3, 2, 9}, new int[] {0, 2, 1}), 2);
    }

    /** "1 that came last"; "by 1 of several that came last at once that of the least number". */
    private static void cameLast() {
        first("rule 1: came a tick later", waiting(1, new int[] {3, 3, 9}, new int[] {0, 2, 1}), 1);
        first("rule 1: came a tick later, the greater number", waiting(1, new int[] {0, 2, 1}, new int[] {3, 3, 9}), 2);
        first("rule 1: came last at once, the least number",
                waiting(1, new int[] {0, 2, 1}, new int[] {3, 3, 9}, new int[] {0, 3, 1}), 2);
        first("rule 1: all came at once, the least number", waiting(1, new int[] {3, 3, 9}, new int[] {0, 3, 1}), 1);
    }

    /** "2 of the least WORK (there)"; "of several alike .. the one that came first, of these .. the least number". */
    private static void leastWorkThere() {
        first("rule 2: the least by one", waiting(2, new int[] {0, 1, 6}, new int[] {3, 9, 5}), 2);
        first("rule 2: the least and the most", waiting(2, new int[] {0, 1, 1000}, new int[] {3, 9, 1}), 2);
        first("rule 2: alike, came first", waiting(2, new int[] {0, 2, 5}, new int[] {3, 1, 5}), 2);
        first("rule 2: alike, came at once, the least number", waiting(2, new int[] {3, 2, 5}, new int[] {0, 2, 5}), 1);
        first("rule 2: alike, came at once, behind one that came later",
                waiting(2, new int[] {0, 3, 5}, new int[] {3, 2, 5}, new int[] {0, 2, 5}), 2);
        QueueReader x = onePlace(1, 2, 0);
        x.place(8, 0, 0);
        x.ask(0, 0, 0, 10);
        x.ask(0, 0, 1, 1);
        x.step(1, 0, 7);
        x.step(1, 1, 1);
        x.ask(0, 0, 1, 5);
        x.step(2, 0, 6);
        x.step(2, 1, 1000);
        Due.answer("8: rule 2: the work there, not that of the ask's other steps", 10, () -> x.played(2, 1, 1));
    }

    /** "3 of the least KIND", and of several alike the same. */
    private static void leastKind() {
        first("rule 3: the least by one", waiting(3, new int[] {3, 1, 1}, new int[] {2, 9, 9}), 2);
        first("rule 3: the least and the most", waiting(3, new int[] {3, 1, 1}, new int[] {0, 9, 9}), 2);
        first("rule 3: alike, came first", waiting(3, new int[] {2, 2, 1}, new int[] {2, 1, 9}), 2);
        first("rule 3: alike, came at once, the least number", waiting(3, new int[] {2, 2, 9}, new int[] {2, 2, 1}), 1);
        first("rule 3: alike, came at once, behind one that came later",
                waiting(3, new int[] {1, 3, 1}, new int[] {1, 2, 9}, new int[] {1, 2, 1}), 2);
    }

    /** "What 0 .. 1 .. 2"; "NoSuchElementException: another what", told behind the step. */
    private static void numbersOfPlayed() {
        QueueReader x = Sample.small();
        times("the last step of the first ask", x, 0, 2, 18, 18, 20);
        for (int what : new int[] {-1, 3, Integer.MIN_VALUE, Integer.MAX_VALUE}) {
            Due.noElement("8: what " + what, () -> x.played(0, 2, what));
            Due.noIndex("8: what " + what + " of no step", () -> x.played(0, 3, what));
            Due.noIndex("8: what " + what + " of no ask", () -> x.played(3, 0, what));
        }
        for (int what : new int[] {0, 1, 2}) {
            Due.noIndex("8: step -1", () -> x.played(1, -1, what));
            Due.noIndex("8: step 1 of one", () -> x.played(1, 1, what));
            Due.noIndex("8: step 2 of two", () -> x.played(2, 2, what));
            Due.noIndex("8: step 3 of three", () -> x.played(0, 3, what));
            Due.noIndex("8: ask -1", () -> x.played(-1, 0, what));
            Due.noIndex("8: ask 3 of three", () -> x.played(3, 0, what));
        }
        times("the same behind what was refused", x, 0, 2, 18, 18, 20);
        QueueReader y = Sample.full();
        Due.noIndex("8: full: step 5", () -> y.played(59, 5, 0));
        Due.noIndex("8: full: ask 60", () -> y.played(60, 0, 0));
        Due.noElement("8: full: what 3", () -> y.played(59, 4, 3));
        Due.noElement("8: full: what -1", () -> y.played(0, 0, -1));
        Due.answer("8: full: the first came", 0, () -> y.played(0, 0, 0));
        Due.answer("8: full: the last ask came", 118, () -> y.played(59, 0, 0));
    }

    /** Each call that changes the net changes the play, and none that does not. */
    private static void playIsOfNow() {
        QueueReader x = onePlace(1, 0, 0);
        x.ask(0, 1, 0, 4);
        times("one", x, 0, 0, 1, 1, 5);
        x.ask(0, 0, 0, 6);
        times("an ask that came ahead", x, 0, 0, 1, 6, 10);
        x.step(1, 0, 2);
        times("a step more", x, 1, 1, 6, 10, 12);
        x.change(0, 1, 1, 0);
        times("another rule", x, 1, 1, 6, 6, 8);
        x.change(0, 2, 1, 0);
        times("a helper more", x, 0, 0, 1, 1, 5);
        x.change(0, 2, 1, 3);
        times("another delay", x, 1, 1, 9, 9, 11);
        x.place(1, 0, 0);
        x.seen(1, 1, 50, 60);
        x.unsee(1, 1);
        x.trace();
        x.saved(0);
        x.narrow();
        x.found(0, true);
        times("as it was", x, 1, 1, 9, 9, 11);
        times("and the other", x, 0, 0, 1, 1, 5);
    }
}
