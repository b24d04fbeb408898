import java.util.ArrayList;
import java.util.List;
import java.util.NoSuchElementException;

/**
 * The document played as literally as can be: tick by tick, with every helpers and rule tried out.
 * It shares no thought with the program, and is only quick enough for small ticks.
 */
public final class Oracle {
    private static final int LAST_TICK = 3000;

    private static final class Place {
        int helpers;
        int rule;
        int delay;
    }

    private static final class Step {
        final int ask;
        final int kind;
        final int place;
        int work;
        boolean seen;
        int seenBegun;
        int seenDone;
        int came;
        int begun;
        int done;

        Step(int ask, int kind, int place, int work) {
            this.ask = ask;
            this.kind = kind;
            this.place = place;
            this.work = work;
        }

        Step copy() {
            Step c = new Step(ask, kind, place, work);
            c.seen = seen;
            c.seenBegun = seenBegun;
            c.seenDone = seenDone;
            c.came = came;
            return c;
        }
    }

    private static final class Ask {
        int kind;
        int start;
        final List<Step> steps = new ArrayList<>();
    }

    private final List<Place> places = new ArrayList<>();
    private final List<Ask> asks = new ArrayList<>();

    public int place(int helpers, int rule, int delay) {
        checkPlace(helpers, rule, delay);
        if (places.size() == 5) {
            throw new UnsupportedOperationException();
        }
        Place p = new Place();
        set(p, helpers, rule, delay);
        places.add(p);
        return places.size() - 1;
    }

    public void change(int place, int helpers, int rule, int delay) {
        hasPlace(place);
        checkPlace(helpers, rule, delay);
        set(places.get(place), helpers, rule, delay);
    }

    public int ask(int kind, int start, int place, int work) {
        hasPlace(place);
        if (kind < 0 || kind > 3 || start < 0 || start > 100000 || work < 1 || work > 1000) {
            throw new IllegalArgumentException();
        }
        if (asks.size() == 60) {
            throw new UnsupportedOperationException();
        }
        Ask a = new Ask();
        a.kind = kind;
        a.start = start;
        a.steps.add(new Step(asks.size(), kind, place, work));
        asks.add(a);
        return asks.size() - 1;
    }

    public int step(int ask, int place, int work) {
        hasAsk(ask);
        hasPlace(place);
        if (work < 1 || work > 1000) {
            throw new IllegalArgumentException();
        }
        Ask a = asks.get(ask);
        if (a.steps.size() == 5) {
            return -1;
        }
        a.steps.add(new Step(ask, a.kind, place, work));
        return a.steps.size() - 1;
    }

    public void seen(int ask, int step, int begun, int done) {
        Step s = getStep(ask, step);
        if (begun < 0 || begun > 10000000 || done < 0 || done > 10000000 || done <= begun) {
            throw new IllegalArgumentException();
        }
        s.seen = true;
        s.seenBegun = begun;
        s.seenDone = done;
    }

    public boolean unsee(int ask, int step) {
        Step s = getStep(ask, step);
        boolean was = s.seen;
        s.seen = false;
        return was;
    }

    public int played(int ask, int step, int what) {
        Step s = getStep(ask, step);
        if (what < 0 || what > 2) {
            throw new NoSuchElementException();
        }
        play(-1);
        return what == 0 ? s.came : what == 1 ? s.begun : s.done;
    }

    public int trace() {
        play(-1);
        int n = 0;
        for (Step s : allSteps()) {
            s.seen = true;
            s.seenBegun = s.begun;
            s.seenDone = s.done;
            n++;
        }
        return n;
    }

    public int unlike() {
        play(-1);
        int n = 0;
        for (Step s : allSteps()) {
            if (s.seen && !(s.seenBegun == s.begun && s.seenDone == s.done)) {
                n++;
            }
        }
        return n;
    }

    public int found(int place, boolean rule) {
        hasPlace(place);
        List<Step> there = new ArrayList<>();
        for (Ask a : asks) {
            for (int i = 0; i < a.steps.size(); i++) {
                if (a.steps.get(i).place == place) {
                    if (!knownTrack(a, i)) {
                        return -1;
                    }
                    Step c = a.steps.get(i).copy();
                    c.came = trackCame(a, i);
                    c.work = c.seenDone - c.seenBegun;
                    there.add(c);
                }
            }
        }
        if (there.isEmpty()) {
            return -1;
        }
        for (int h = 1; h <= 8; h++) {
            for (int r = 0; r <= 3; r++) {
                if (agrees(there, h, r)) {
                    return rule ? r : h;
                }
            }
        }
        return -1;
    }

    public int overlap(int place) {
        hasPlace(place);
        int most = 0;
        for (int t = 0; t < LAST_TICK; t++) {
            int n = 0;
            for (Step s : allSteps()) {
                if (s.place == place && s.seen && s.seenBegun <= t && t < s.seenDone) {
                    n++;
                }
            }
            most = Math.max(most, n);
        }
        return most;
    }

    public long counts(int place, boolean tracks, int from, int to, int what) {
        hasPlace(place);
        if (from < 0 || from > to || to > 10000000) {
            throw new IllegalArgumentException();
        }
        if (what < 0 || what > 3) {
            throw new NoSuchElementException();
        }
        play(-1);
        long sum = 0;
        for (Ask a : asks) {
            for (int i = 0; i < a.steps.size(); i++) {
                Step s = a.steps.get(i);
                if (s.place != place || tracks && !knownTrack(a, i)) {
                    continue;
                }
                int came = tracks ? trackCame(a, i) : s.came;
                int begun = tracks ? s.seenBegun : s.begun;
                int done = tracks ? s.seenDone : s.done;
                for (int t = from; t < Math.min(to, LAST_TICK); t++) {
                    boolean hit = what == 0 ? came == t
                            : what == 1 ? done == t
                            : what == 2 ? came <= t && done > t
                            : begun <= t && done > t;
                    sum += hit ? 1 : 0;
                }
            }
        }
        return sum;
    }

    public long total() {
        return totalWith(-1);
    }

    public long saved(int place) {
        hasPlace(place);
        return totalWith(-1) - totalWith(place);
    }

    public int narrow() {
        int best = -1;
        for (int p = 0; p < places.size(); p++) {
            if (best < 0 || saved(p) > saved(best)) {
                best = p;
            }
        }
        return best;
    }

    public int alone(int ask) {
        hasAsk(ask);
        Ask a = asks.get(ask);
        int t = a.start;
        for (int i = 0; i < a.steps.size(); i++) {
            if (i > 0) {
                t += places.get(a.steps.get(i - 1).place).delay;
            }
            t += a.steps.get(i).work;
        }
        return t;
    }

    public int count(int what) {
        if (what == 0) {
            return places.size();
        }
        if (what == 1) {
            return asks.size();
        }
        if (what == 2) {
            return allSteps().size();
        }
        if (what == 3) {
            int n = 0;
            for (Step s : allSteps()) {
                n += s.seen ? 1 : 0;
            }
            return n;
        }
        if (what == 4) {
            play(-1);
            int end = 0;
            for (Step s : allSteps()) {
                end = Math.max(end, s.done);
            }
            return end;
        }
        return -1;
    }

    /** How many steps an ask has; 0 if there is no such ask. */
    public int stepsOf(int ask) {
        return ask < 0 || ask >= asks.size() ? 0 : asks.get(ask).steps.size();
    }

    private long totalWith(int widened) {
        play(widened);
        long sum = 0;
        for (Ask a : asks) {
            sum += a.steps.get(a.steps.size() - 1).done - a.start;
        }
        return sum;
    }

    private void play(int widened) {
        for (Step s : allSteps()) {
            s.came = -1;
            s.begun = -1;
            s.done = -1;
        }
        int left = allSteps().size();
        for (int t = 0; left > 0; t++) {
            for (Step s : allSteps()) {
                left -= s.done == t ? 1 : 0;
            }
            for (Ask a : asks) {
                for (int i = 0; i < a.steps.size(); i++) {
                    Step s = a.steps.get(i);
                    if (i == 0 ? a.start == t : comesNow(a.steps.get(i - 1), t)) {
                        s.came = t;
                    }
                }
            }
            for (int p = 0; p < places.size(); p++) {
                int helpers = places.get(p).helpers + (p == widened ? 1 : 0);
                beginAll(stepsAt(p), helpers, places.get(p).rule, t);
            }
        }
    }

    private boolean comesNow(Step before, int t) {
        return before.done >= 0 && before.done <= t && before.done + places.get(before.place).delay == t;
    }

    private static void beginAll(List<Step> there, int helpers, int rule, int t) {
        while (true) {
            int busy = 0;
            Step next = null;
            for (Step s : there) {
                if (s.begun >= 0 && s.done > t) {
                    busy++;
                }
                if (s.came >= 0 && s.came <= t && s.begun < 0 && (next == null || isBefore(s, next, rule))) {
                    next = s;
                }
            }
            if (next == null || busy >= helpers) {
                return;
            }
            next.begun = t;
            next.done = t + next.work;
        }
    }

    /** Of two that wait, whether the later in number is to be helped ahead of the earlier one. */
    private static boolean isBefore(Step s, Step other, int rule) {
        if (rule == 1) {
            return s.came > other.came;
        }
        if (rule == 2 && s.work != other.work) {
            return s.work < other.work;
        }
        if (rule == 3 && s.kind != other.kind) {
            return s.kind < other.kind;
        }
        return s.came < other.came;
    }

    private static boolean agrees(List<Step> there, int helpers, int rule) {
        for (Step s : there) {
            s.begun = -1;
            s.done = -1;
        }
        for (int t = 0; t < LAST_TICK; t++) {
            beginAll(there, helpers, rule, t);
            for (Step s : there) {
                if ((s.begun == t) != (s.seenBegun == t)) {
                    return false;
                }
            }
        }
        return true;
    }

    private static boolean knownTrack(Ask a, int i) {
        return a.steps.get(i).seen && (i == 0 || a.steps.get(i - 1).seen);
    }

    private int trackCame(Ask a, int i) {
        if (i == 0) {
            return a.start;
        }
        Step before = a.steps.get(i - 1);
        return before.seenDone + places.get(before.place).delay;
    }

    private List<Step> stepsAt(int place) {
        List<Step> there = new ArrayList<>();
        for (Step s : allSteps()) {
            if (s.place == place) {
                there.add(s);
            }
        }
        return there;
    }

    private List<Step> allSteps() {
        List<Step> all = new ArrayList<>();
        for (Ask a : asks) {
            all.addAll(a.steps);
        }
        return all;
    }

    private static void set(Place p, int helpers, int rule, int delay) {
        p.helpers = helpers;
        p.rule = rule;
        p.delay = delay;
    }

    private static void checkPlace(int helpers, int rule, int delay) {
        if (helpers < 1 || helpers > 8 || rule < 0 || rule > 3 || delay < 0 || delay > 1000) {
            throw new IllegalArgumentException();
        }
    }

    private void hasPlace(int place) {
        if (place < 0 || place >= places.size()) {
            throw new IndexOutOfBoundsException();
        }
    }

    private void hasAsk(int ask) {
        if (ask < 0 || ask >= asks.size()) {
            throw new IndexOutOfBoundsException();
        }
    }

    private Step getStep(int ask, int step) {
        hasAsk(ask);
        if (step < 0 || step >= asks.get(ask).steps.size()) {
            throw new IndexOutOfBoundsException();
        }
        return asks.get(ask).steps.get(step);
    }
}
