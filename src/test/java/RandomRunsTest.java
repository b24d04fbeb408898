import java.util.Random;

/** Runs of calls drawn with a fixed seed, each answer compared with the document played tick by tick. */
public final class RandomRunsTest {
    private static final int RUNS = 1500;
    private static final int CALLS = 90;
    private static final int[] ODD = {
        Integer.MIN_VALUE, -2, -1, 0, 1, 2, 3, 4, 5, 6, 8, 9, 59, 60, 61, 1000, 1001, 100001,
        10000000, 10000001, Integer.MAX_VALUE};

    private final Random random;
    private final QueueReader reader = new QueueReader();
    private final Oracle oracle = new Oracle();
    private final int span;
    private final StringBuilder log = new StringBuilder("new");

    private RandomRunsTest(int seed) {
        random = new Random(seed);
        span = 1 + random.nextInt(12);
    }

    public static void main(String[] args) {
        for (int seed = 0; seed < RUNS && Due.wrongSoFar() < 5; seed++) {
            RandomRunsTest run = new RandomRunsTest(seed);
            run.opening();
            for (int i = 0; i < CALLS; i++) {
                run.anyCall();
            }
        }
        Due.end();
    }

    private void opening() {
        int places = 1 + random.nextInt(3);
        for (int i = 0; i < places; i++) {
            place(1 + random.nextInt(3), random.nextInt(4), delay());
        }
        int asks = random.nextInt(8);
        for (int i = 0; i < asks; i++) {
            ask(random.nextInt(4), random.nextInt(2 * span), random.nextInt(places), work());
        }
    }

    private void anyCall() {
        int draw = random.nextInt(100);
        if (draw < 3) {
            place(1 + random.nextInt(8), random.nextInt(4), delay());
        } else if (draw < 11) {
            change(aPlace(), 1 + random.nextInt(3), random.nextInt(4), delay());
        } else if (draw < 17) {
            if (oracle.count(1) < 12) {
                ask(random.nextInt(4), random.nextInt(2 * span), aPlace(), work());
            }
        } else if (draw < 27) {
            // Ask 0 is the one that gets 5 steps often, and then no more.
            step(random.nextBoolean() ? 0 : anAsk(), aPlace(), work());
        } else if (draw < 38) {
            seenCall();
        } else if (draw < 41) {
            unsee(anAsk(), aStep());
        } else if (draw < 51) {
            played(anAsk(), aStep(), random.nextInt(3));
        } else if (draw < 55) {
            check("trace()", reader::trace, oracle::trace);
        } else if (draw < 58) {
            check("unlike()", reader::unlike, oracle::unlike);
        } else if (draw < 70) {
            int place = aPlace();
            found(place, false);
            found(place, true);
        } else if (draw < 74) {
            overlap(aPlace());
        } else if (draw < 84) {
            int from = random.nextInt(4 * span);
            counts(aPlace(), random.nextBoolean(), from, from + random.nextInt(8 * span), random.nextInt(4));
        } else {
            lastCalls(draw);
        }
    }

    private void lastCalls(int draw) {
        if (draw < 86) {
            check("total()", reader::total, oracle::total);
        } else if (draw < 89) {
            saved(aPlace());
        } else if (draw < 91) {
            check("narrow()", reader::narrow, oracle::narrow);
        } else if (draw < 93) {
            alone(anAsk());
        } else if (draw < 96) {
            int what = random.nextInt(7) - 1;
            check("count(" + what + ")", () -> reader.count(what), () -> oracle.count(what));
        } else {
            oddCall();
        }
    }

    /** Numbers at and beyond the limits: only for calls that the slow oracle does not play long for. */
    private void oddCall() {
        switch (random.nextInt(9)) {
            case 0:
                change(odd(), odd(), odd(), 7);
                break;
            case 1:
                step(odd(), odd(), 3);
                break;
            case 2:
                ask(5, odd(), odd(), odd());
                break;
            case 3:
                unsee(odd(), odd());
                break;
            case 4:
                played(odd(), odd(), odd());
                break;
            case 5:
                found(odd(), random.nextBoolean());
                overlap(odd());
                break;
            case 6:
                counts(odd(), random.nextBoolean(), odd(), odd(), odd());
                break;
            case 7:
                saved(odd());
                alone(odd());
                break;
            default:
                seen(odd(), odd(), odd(), -1);
                break;
        }
    }

    /** What is seen is drawn near the play, so that places are found often, and sometimes far from it. */
    private void seenCall() {
        int ask = anAsk();
        int step = aStep();
        int begun = random.nextInt(6 * span);
        int done = begun + work();
        if (step >= 0 && step < oracle.stepsOf(ask) && random.nextInt(4) > 0) {
            begun = Math.max(0, oracle.played(ask, step, 1) + random.nextInt(3) - 1);
            done = oracle.played(ask, step, 2) + random.nextInt(3) - 1;
        }
        seen(ask, step, begun, done);
    }

    private int odd() {
        return ODD[random.nextInt(ODD.length)];
    }

    private int work() {
        return 1 + random.nextInt(span);
    }

    private int delay() {
        return random.nextBoolean() ? 0 : random.nextInt(span);
    }

    private int aPlace() {
        return random.nextInt(oracle.count(0) * 8 + 1) / 8;
    }

    private int anAsk() {
        return random.nextInt(oracle.count(1) * 8 + 1) / 8;
    }

    private int aStep() {
        return Math.min(random.nextInt(6), random.nextInt(6));
    }

    private void place(int helpers, int rule, int delay) {
        check("place(" + helpers + ", " + rule + ", " + delay + ")",
                () -> reader.place(helpers, rule, delay), () -> oracle.place(helpers, rule, delay));
    }

    private void change(int place, int helpers, int rule, int delay) {
        check("change(" + place + ", " + helpers + ", " + rule + ", " + delay + ")",
                () -> Calls.change(reader, place, helpers, rule, delay),
                () -> {
                    oracle.change(place, helpers, rule, delay);
                    return 0;
                });
    }

    private void ask(int kind, int start, int place, int work) {
        check("ask(" + kind + ", " + start + ", " + place + ", " + work + ")",
                () -> reader.ask(kind, start, place, work), () -> oracle.ask(kind, start, place, work));
    }

    private void step(int ask, int place, int work) {
        check("step(" + ask + ", " + place + ", " + work + ")",
                () -> reader.step(ask, place, work), () -> oracle.step(ask, place, work));
    }

    private void seen(int ask, int step, int begun, int done) {
        check("seen(" + ask + ", " + step + ", " + begun + ", " + done + ")",
                () -> Calls.seen(reader, ask, step, begun, done),
                () -> {
                    oracle.seen(ask, step, begun, done);
                    return 0;
                });
    }

    private void unsee(int ask, int step) {
        check("unsee(" + ask + ", " + step + ")",
                () -> Calls.unsee(reader, ask, step), () -> oracle.unsee(ask, step) ? 1 : 0);
    }

    private void played(int ask, int step, int what) {
        check("played(" + ask + ", " + step + ", " + what + ")",
                () -> reader.played(ask, step, what), () -> oracle.played(ask, step, what));
    }

    private void found(int place, boolean rule) {
        check("found(" + place + ", " + rule + ")",
                () -> reader.found(place, rule), () -> oracle.found(place, rule));
    }

    private void overlap(int place) {
        check("overlap(" + place + ")", () -> reader.overlap(place), () -> oracle.overlap(place));
    }

    private void counts(int place, boolean tracks, int from, int to, int what) {
        check("counts(" + place + ", " + tracks + ", " + from + ", " + to + ", " + what + ")",
                () -> reader.counts(place, tracks, from, to, what),
                () -> oracle.counts(place, tracks, from, to, what));
    }

    private void saved(int place) {
        check("saved(" + place + ")", () -> reader.saved(place), () -> oracle.saved(place));
    }

    private void alone(int ask) {
        check("alone(" + ask + ")", () -> reader.alone(ask), () -> oracle.alone(ask));
    }

    private void check(String name, Due.Call own, Due.Call due) {
        log.append("; ").append(name);
        String got = Due.outcome(own);
        String want = Due.outcome(due);
        Due.same(got.equals(want) ? name : log.toString(), got, want);
    }
}
