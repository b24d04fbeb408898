/** The calls that answer no number, as ones that do: a call without an answer answers 0, a boolean 1 or 0. */
public final class Calls {
    private Calls() {
    }

    public static long change(QueueReader x, int place, int helpers, int rule, int delay) {
        x.change(place, helpers, rule, delay);
        return 0;
    }

    public static long seen(QueueReader x, int ask, int step, int begun, int done) {
        x.seen(ask, step, begun, done);
        return 0;
    }

    public static long unsee(QueueReader x, int ask, int step) {
        return x.unsee(ask, step) ? 1 : 0;
    }
}
