/** Promises 4 and 5 at their edges; RefusedTest has what is left behind by a refused call. */
public final class AskEdgesTest {
    public static void main(String[] args) {
        leastAndMostOfAsk();
        belowAndAboveOfAsk();
        kindsInOrder();
        placesOfAnAsk();
        sixtyAsksAndNo61st();
        fiveStepsAndNoSixth();
        leastAndMostOfStep();
        belowAndAboveOfStep();
        asksAndPlacesOfAStep();
        wrongOnAFullAsk();
        fullObject();
        Due.end();
    }

    /** "a KIND (0 to 3), a START (0 to 100000) .. a WORK (1 to 1000)": what is allowed. */
    private static void leastAndMostOfAsk() {
        for (int kind : new int[] {0, 1, 2, 3}) {
            for (int start : new int[] {0, 1, 99999, 100000}) {
                for (int work : new int[] {1, 2, 999, 1000}) {
                    String about = "4: ask " + kind + " " + start + " " + work;
                    QueueReader x = Sample.withPlaces(1, 1);
                    Due.answer(about, 0, () -> x.ask(kind, start, 0, work));
                    Due.answer(about + ": came", start, () -> x.played(0, 0, 0));
                    Due.answer(about + ": done", start + work, () -> x.played(0, 0, 2));
                    Due.answer(about + ": total", work, x::total);
                    Due.answer(about + ": alone", start + work, () -> x.alone(0));
                }
            }
        }
    }

    /** "IllegalArgumentException: a number is none". */
    private static void belowAndAboveOfAsk() {
        QueueReader x = Sample.withPlaces(1, 1);
        Due.noArgument("4: kind -1", () -> x.ask(-1, 0, 0, 1));
        Due.noArgument("4: kind 4", () -> x.ask(4, 0, 0, 1));
        Due.noArgument("4: start -1", () -> x.ask(0, -1, 0, 1));
        Due.noArgument("4: start 100001", () -> x.ask(0, 100001, 0, 1));
        Due.noArgument("4: work 0", () -> x.ask(0, 0, 0, 0));
        Due.noArgument("4: work 1001", () -> x.ask(0, 0, 0, 1001));
        Due.answer("4: no ask came of it", 0, () -> x.count(1));
        Due.answer("4: nor a step", 0, () -> x.count(2));
        Due.noIndex("4: there is no ask 0", () -> x.alone(0));
        Due.answer("4: nothing to be done", 0, () -> x.count(4));
        Due.answer("4: the next is number 0", 0, () -> x.ask(3, 100000, 0, 1000));
    }

    /** Each of the four kinds is one of its own: by rule 3 the least is begun first. */
    private static void kindsInOrder() {
        QueueReader x = new QueueReader();
        x.place(1, 3, 0);
        x.ask(0, 0, 0, 10);
        for (int kind = 3; kind >= 0; kind--) {
            x.ask(kind, 1, 0, 10);
        }
        for (int kind = 0; kind <= 3; kind++) {
            int ask = 4 - kind;
            Due.answer("4: kind " + kind, 10 + 10 * kind, () -> x.played(ask, 0, 1));
        }
    }

    /** "that of the PLACE: IndexOutOfBoundsException, first". */
    private static void placesOfAnAsk() {
        for (int places = 0; places <= 5; places++) {
            QueueReader x = Sample.withPlaces(places, 1);
            int behind = places;
            Due.noIndex("4: place -1 of " + places, () -> x.ask(0, 0, -1, 1));
            Due.noIndex("4: place " + places + " of as many", () -> x.ask(0, 0, behind, 1));
            Due.noIndex("4: told ahead of a kind that is none", () -> x.ask(-1, 0, behind, 1));
            Due.noIndex("4: told ahead of a start that is none", () -> x.ask(0, 100001, behind, 1));
            Due.noIndex("4: told ahead of a work that is none", () -> x.ask(0, 0, behind, 0));
            Due.answer("4: no ask came of it", 0, () -> x.count(1));
            for (int i = 0; i < places; i++) {
                int place = i;
                Due.answer("4: at place " + i + " of " + places, i, () -> x.ask(0, 0, place, 1));
                Due.answer("4: it is there", 1, () -> x.counts(place, false, 0, 1, 0));
            }
        }
    }

    /** "ASKS (at most 60, numbered from 0 on)"; "UnsupportedOperationException: there are 60". */
    private static void sixtyAsksAndNo61st() {
        QueueReader x = Sample.withPlaces(2, 1);
        for (int i = 0; i < 60; i++) {
            int number = i;
            Due.answer("4: ask number " + i, i, () -> x.ask(0, number, 0, 1));
        }
        Due.noRoom("4: no 61st", () -> x.ask(0, 0, 0, 1));
        Due.noRoom("4: nor another one", () -> x.ask(3, 100000, 1, 1000));
        Due.noArgument("4: what is told first: a kind that is none", () -> x.ask(4, 0, 0, 1));
        Due.noArgument("4: a start that is none", () -> x.ask(0, -1, 0, 1));
        Due.noArgument("4: a work that is none", () -> x.ask(0, 0, 0, 1001));
        Due.noIndex("4: first of all: no such place", () -> x.ask(4, -1, 2, 0));
        Due.answer("4: 60 stay", 60, () -> x.count(1));
        Due.answer("4: with 60 steps", 60, () -> x.count(2));
        Due.answer("4: done when they were", 60, () -> x.count(4));
        Due.answer("4: the last of them", 59, () -> x.played(59, 0, 1));
        Due.noIndex("4: there is no ask 60", () -> x.played(60, 0, 1));
        Due.noIndex("4: alone of ask 60", () -> x.alone(60));
        Due.answer("5: the last can have a step more", 1, () -> x.step(59, 1, 5));
        Due.noIndex("5: ask 60 can not", () -> x.step(60, 1, 5));
        Due.answer("5: the step more", 65, () -> x.count(4));
    }

    /** "1 to 5 STEPS (numbered from 0 on)"; "NONE, and it does not come, if there are 5". */
    private static void fiveStepsAndNoSixth() {
        QueueReader x = Sample.withPlaces(2, 1);
        x.ask(0, 0, 0, 2);
        Due.answer("5: an ask has a step 0", 2, () -> x.played(0, 0, 2));
        for (int s = 1; s <= 4; s++) {
            int step = s;
            Due.noIndex("5: step " + s + " is not there yet", () -> x.played(0, step, 0));
            Due.answer("5: step number " + s, s, () -> x.step(0, 0, 2));
            Due.answer("5: it comes when the one before is done", 2 * s, () -> x.played(0, step, 0));
            Due.answer("5: so many there are", s + 1, () -> x.count(2));
        }
        for (int again = 0; again < 3; again++) {
            Due.answer("5: there are 5", -1, () -> x.step(0, 1, 1000));
            Due.answer("5: it does not come: steps", 5, () -> x.count(2));
            Due.answer("5: it does not come: end", 10, () -> x.count(4));
            Due.answer("5: it does not come: alone", 10, () -> x.alone(0));
            Due.answer("5: it does not come: total", 10, x::total);
            Due.answer("5: it does not come: place", 0, () -> x.counts(1, false, 0, 10000000, 0));
            Due.noIndex("5: it does not come: step 5", () -> x.played(0, 5, 0));
        }
        Due.answer("9: all steps", 5, x::trace);
        Due.answer("4: the next ask has its own", 1, () -> x.ask(0, 0, 1, 1));
        Due.answer("5: from 1 on", 1, () -> x.step(1, 1, 1));
        Due.answer("5: the first stays full", -1, () -> x.step(0, 1, 1));
    }

    private static void leastAndMostOfStep() {
        for (int work : new int[] {1, 2, 999, 1000}) {
            QueueReader x = Sample.withPlaces(1, 1);
            x.ask(0, 0, 0, 1);
            Due.answer("5: work " + work, 1, () -> x.step(0, 0, work));
            Due.answer("5: it takes " + work, 1 + work, () -> x.played(0, 1, 2));
        }
    }

    /** "IllegalArgumentException: WORK is none". */
    private static void belowAndAboveOfStep() {
        QueueReader x = Sample.withPlaces(1, 1);
        x.ask(0, 0, 0, 1);
        Due.noArgument("5: work 0", () -> x.step(0, 0, 0));
        Due.noArgument("5: work -1", () -> x.step(0, 0, -1));
        Due.noArgument("5: work 1001", () -> x.step(0, 0, 1001));
        Due.answer("5: no step came of it", 1, () -> x.count(2));
        Due.noIndex("5: there is no step 1", () -> x.played(0, 1, 0));
        Due.answer("5: all is done as it was", 1, () -> x.count(4));
        Due.answer("5: the next is step 1", 1, () -> x.step(0, 0, 1000));
    }

    /** "IndexOutOfBoundsException: of an ASK, PLACE", which is told ahead of the work. */
    private static void asksAndPlacesOfAStep() {
        QueueReader x = Sample.withPlaces(5, 1);
        Due.noIndex("5: no asks", () -> x.step(0, 0, 1));
        for (int i = 0; i < 3; i++) {
            x.ask(0, 0, 0, 1);
        }
        for (int ask : new int[] {-1, 3, 60}) {
            Due.noIndex("5: ask " + ask, () -> x.step(ask, 0, 1));
            Due.noIndex("5: ask " + ask + ", told ahead of the work", () -> x.step(ask, 0, 0));
        }
        for (int place : new int[] {-1, 5}) {
            Due.noIndex("5: place " + place, () -> x.step(0, place, 1));
            Due.noIndex("5: place " + place + ", told ahead of the work", () -> x.step(0, place, 1001));
        }
        Due.answer("5: no step came of it", 3, () -> x.count(2));
        Due.answer("5: the first ask", 1, () -> x.step(0, 0, 1));
        Due.answer("5: the last ask, the last place", 1, () -> x.step(2, 4, 1));
        Due.answer("5: there it is", 1, () -> x.counts(4, false, 0, 10, 0));
    }

    private static void wrongOnAFullAsk() {
        QueueReader x = Sample.withPlaces(1, 1);
        x.ask(0, 0, 0, 1);
        for (int s = 1; s < 5; s++) {
            x.step(0, 0, 1);
        }
        Due.noIndex("5: no such place, though there are 5", () -> x.step(0, 1, 1));
        Due.noIndex("5: no place -1, though there are 5", () -> x.step(0, -1, 1));
        Due.noArgument("5: a work that is none, though there are 5", () -> x.step(0, 0, 0));
        Due.noArgument("5: a work too great, though there are 5", () -> x.step(0, 0, 1001));
        Due.answer("5: all right, but there are 5", -1, () -> x.step(0, 0, 1));
        Due.answer("5: five stay", 5, () -> x.count(2));
    }

    /** 5 places, 60 asks of 5 steps: no number in it is mixed up with another one. */
    private static void fullObject() {
        QueueReader x = new QueueReader();
        for (int place = 0; place < 5; place++) {
            x.place(8, 0, 0);
        }
        for (int i = 0; i < 60; i++) {
            int ask = i;
            // Far enough apart that nobody waits.
            Due.answer("4: ask " + i, i, () -> x.ask(0, 1000 * ask, ask % 5, 1 + ask));
            for (int s = 1; s < 5; s++) {
                int step = s;
                Due.answer("5: step " + s + " of " + i, s, () -> x.step(ask, (ask + step) % 5, 1 + ask));
            }
        }
        Due.answer("5: 300 steps", 300, () -> x.count(2));
        for (int i = 0; i < 60; i++) {
            int ask = i;
            Due.answer("5: no sixth of " + i, -1, () -> x.step(ask, 0, 1));
        }
        for (int i = 0; i < 60; i++) {
            int ask = i;
            Due.answer("8: the last step of " + i, 1005 * ask + 5, () -> x.played(ask, 4, 2));
        }
        for (int place = 0; place < 5; place++) {
            int p = place;
            Due.answer("13: each ask went to place " + place, 60, () -> x.counts(p, false, 0, 10000000, 0));
        }
        Due.noRoom("4: no ask more", () -> x.ask(0, 0, 0, 1));
        Due.noRoom("2: no place more", () -> x.place(1, 0, 0));
        Due.answer("18: 300 steps still", 300, () -> x.count(2));
    }
}
