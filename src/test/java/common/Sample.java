/**
 * Objects in known states, and all that can be read of one, as a text. An object answers 512 calls
 * only: one of full() has had 306 of them, and a view takes 140 at the most.
 */
public final class Sample {
    private Sample() {
    }

    /** 2 places, and 3 asks of 3, 1 and 2 steps; all but the last step are seen, one of them not as played. */
    public static QueueReader small() {
        QueueReader x = new QueueReader();
        x.place(1, 2, 4);
        x.place(2, 1, 0);
        x.ask(1, 3, 0, 5);
        x.step(0, 1, 6);
        x.step(0, 0, 2);
        x.ask(0, 4, 0, 9);
        x.ask(2, 4, 0, 1);
        x.step(2, 1, 7);
        x.trace();
        x.seen(0, 1, 12, 17);
        x.unsee(2, 1);
        return x;
    }

    /** 5 places, 60 asks of 5 steps each, all of them seen as played. */
    public static QueueReader full() {
        QueueReader x = new QueueReader();
        for (int place = 0; place < 5; place++) {
            x.place(1 + place, (place + 2) % 4, 3 * place);
        }
        for (int ask = 0; ask < 60; ask++) {
            x.ask(ask % 4, 2 * ask, ask % 5, 1 + ask % 9);
            for (int step = 1; step < 5; step++) {
                x.step(ask, (ask + 2 * step) % 5, 1 + (ask + step) % 7);
            }
        }
        x.trace();
        return x;
    }

    /** So many places, all of rule 0 and without a delay. */
    public static QueueReader withPlaces(int places, int helpers) {
        QueueReader x = new QueueReader();
        for (int i = 0; i < places; i++) {
            x.place(helpers, 0, 0);
        }
        return x;
    }

    /** Asks of 5 steps at place 0, all alike but for their numbers. */
    public static void fill(QueueReader x, int asks, int start, int work) {
        for (int ask = 0; ask < asks; ask++) {
            x.ask(0, start, 0, work);
            for (int step = 1; step < 5; step++) {
                x.step(ask, 0, work);
            }
        }
    }

    /** What an object answers to all that changes nothing: of many asks only to the first and the last. */
    public static String view(QueueReader x) {
        StringBuilder text = new StringBuilder();
        for (int what = 0; what <= 4; what++) {
            text.append(x.count(what)).append(' ');
        }
        text.append(x.total()).append(' ').append(x.narrow()).append(' ').append(x.unlike());
        int places = x.count(0);
        for (int place = 0; place < places; place++) {
            viewPlace(x, place, text);
        }
        int asks = x.count(1);
        for (int ask = 0; ask < asks; ask++) {
            if (asks <= 4 || ask == 0 || ask == asks - 1) {
                viewAsk(x, ask, text);
            }
        }
        return text.toString();
    }

    private static void viewPlace(QueueReader x, int place, StringBuilder text) {
        text.append("; place ").append(x.found(place, false)).append(' ').append(x.found(place, true));
        text.append(' ').append(x.overlap(place)).append(' ').append(x.saved(place));
        for (int what = 0; what <= 3; what++) {
            text.append(' ').append(x.counts(place, false, 0, 10000000, what));
            text.append(' ').append(x.counts(place, true, 0, 10000000, what));
            text.append(' ').append(x.counts(place, true, 6, 13, what));
        }
    }

    private static void viewAsk(QueueReader x, int ask, StringBuilder text) {
        text.append("; ask ").append(x.alone(ask));
        int step = 0;
        String came = Due.outcome(() -> x.played(ask, 0, 0));
        while (!came.startsWith("throws")) {
            int there = step;
            text.append(' ').append(came).append(' ').append(x.played(ask, step, 1));
            text.append(' ').append(x.played(ask, step, 2));
            step++;
            came = Due.outcome(() -> x.played(ask, there + 1, 0));
        }
    }
}
