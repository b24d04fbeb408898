import java.util.Arrays;
import java.util.NoSuchElementException;

/**
 * A reader of queues from tracks: a net of places that help asks, played exactly, and what was
 * seen of it, read back into helpers and rules. The document's numbered promises say what each
 * call answers.
 */
public final class QueueReader {
    public static final int NONE = -1;

    private static final int MAX_PLACES = 5;
    private static final int MAX_HELPERS = 8;
    private static final int MAX_RULE = 3;
    private static final int MAX_DELAY = 1000;
    private static final int MAX_ASKS = 60;
    private static final int MAX_KIND = 3;
    private static final int MAX_START = 100000;
    private static final int MAX_STEPS = 5;
    private static final int MAX_WORK = 1000;
    private static final int MAX_TICK = 10000000;
    private static final int MAX_ROWS = MAX_ASKS * MAX_STEPS;

    /** Far behind every tick that a play or a track can reach. */
    private static final int NEVER = 1000000000;

    private final Net net;
    private final Tracks told;
    private final Fit fit;
    private final Play play;
    private final Play trial;
    private boolean isPlayFresh;

    public QueueReader() {
        net = new Net();
        told = new Tracks();
        fit = new Fit();
        play = new Play();
        trial = new Play();
        isPlayFresh = false;
    }

    public int place(int helpers, int rule, int delay)
            throws IllegalArgumentException, UnsupportedOperationException {
        needPlaceNumbers(helpers, rule, delay);
        if (net.places >= MAX_PLACES) {
            throw new UnsupportedOperationException("there are 5 places");
        }
        int added = net.places;
        net.places++;
        net.setPlace(added, helpers, rule, delay);
        isPlayFresh = false;
        return added;
    }

    public void change(int place, int helpers, int rule, int delay)
            throws IndexOutOfBoundsException, IllegalArgumentException {
        needPlace(place);
        needPlaceNumbers(helpers, rule, delay);
        net.setPlace(place, helpers, rule, delay);
        isPlayFresh = false;
    }

    public int ask(int kind, int start, int place, int work)
            throws IndexOutOfBoundsException, IllegalArgumentException, UnsupportedOperationException {
        needPlace(place);
        needWithin(kind, 0, MAX_KIND);
        needWithin(start, 0, MAX_START);
        needWithin(work, 1, MAX_WORK);
        if (net.asks >= MAX_ASKS) {
            throw new UnsupportedOperationException("there are 60 asks");
        }
        int added = net.asks;
        net.asks++;
        net.kinds[added] = kind;
        net.starts[added] = start;
        net.addStep(added, place, work);
        isPlayFresh = false;
        return added;
    }

    public int step(int ask, int place, int work)
            throws IndexOutOfBoundsException, IllegalArgumentException {
        needAsk(ask);
        needPlace(place);
        needWithin(work, 1, MAX_WORK);
        if (net.lengths[ask] >= MAX_STEPS) {
            return NONE;
        }
        isPlayFresh = false;
        return net.addStep(ask, place, work);
    }

    public void seen(int ask, int step, int begun, int done)
            throws IndexOutOfBoundsException, IllegalArgumentException {
        int row = needStep(ask, step);
        needWithin(begun, 0, MAX_TICK);
        needWithin(done, 0, MAX_TICK);
        if (done <= begun) {
            throw new IllegalArgumentException("done is not later than begun");
        }
        told.tell(row, begun, done);
    }

    public boolean unsee(int ask, int step) throws IndexOutOfBoundsException {
        int row = needStep(ask, step);
        boolean was = told.isSeen[row];
        told.isSeen[row] = false;
        return was;
    }

    public int played(int ask, int step, int what)
            throws IndexOutOfBoundsException, NoSuchElementException {
        int row = needStep(ask, step);
        needWhat(what, 2);
        refreshPlay();
        if (what == 0) {
            return play.came[row];
        }
        return what == 1 ? play.begun[row] : play.done[row];
    }

    public int trace() {
        refreshPlay();
        for (int row = 0; row < net.rowsEnd(); row++) {
            if (net.isStep(row)) {
                told.tell(row, play.begun[row], play.done[row]);
            }
        }
        return net.steps;
    }

    public int unlike() {
        refreshPlay();
        int others = 0;
        for (int row = 0; row < net.rowsEnd(); row++) {
            if (told.isSeen[row]
                    && (told.begun[row] != play.begun[row] || told.done[row] != play.done[row])) {
                others++;
            }
        }
        return others;
    }

    public int found(int place, boolean rule) throws IndexOutOfBoundsException {
        needPlace(place);
        fit.gather(net, told, place);
        return rule ? fit.firstRule() : fit.leastHelpers();
    }

    public int overlap(int place) throws IndexOutOfBoundsException {
        needPlace(place);
        fit.gather(net, told, place);
        return fit.mostAtOnce();
    }

    public long counts(int place, boolean tracks, int from, int to, int what)
            throws IndexOutOfBoundsException, IllegalArgumentException, NoSuchElementException {
        needPlace(place);
        needWithin(to, 0, MAX_TICK);
        needWithin(from, 0, to);
        needWhat(what, 3);
        if (tracks) {
            return countsByTracks(place, from, to, what);
        }
        return countsByPlay(place, from, to, what);
    }

    public long total() {
        refreshPlay();
        return play.sumOfTimes(net);
    }

    public long saved(int place) throws IndexOutOfBoundsException {
        needPlace(place);
        refreshPlay();
        return gainAt(place);
    }

    public int narrow() {
        refreshPlay();
        int best = NONE;
        long most = 0;
        for (int place = 0; place < net.places; place++) {
            // One helper more can make a net slower: the most may be below 0.
            long gain = gainAt(place);
            if (best == NONE || gain > most) {
                best = place;
                most = gain;
            }
        }
        return best;
    }

    public int alone(int ask) throws IndexOutOfBoundsException {
        needAsk(ask);
        int tick = net.starts[ask];
        for (int row = net.firstRow(ask); row <= net.lastRow(ask); row++) {
            tick += net.stepWorks[row];
            if (row < net.lastRow(ask)) {
                tick += net.delays[net.stepPlaces[row]];
            }
        }
        return tick;
    }

    public int count(int what) {
        switch (what) {
            case 0:
                return net.places;
            case 1:
                return net.asks;
            case 2:
                return net.steps;
            case 3:
                return told.size(net);
            case 4:
                refreshPlay();
                return play.end(net);
            default:
                return NONE;
        }
    }

    private long countsByPlay(int place, int from, int to, int what) {
        refreshPlay();
        long sum = 0;
        for (int row = 0; row < net.rowsEnd(); row++) {
            if (net.stepPlaces[row] == place) {
                sum += share(play.came[row], play.begun[row], play.done[row], from, to, what);
            }
        }
        return sum;
    }

    private long countsByTracks(int place, int from, int to, int what) {
        long sum = 0;
        for (int row = 0; row < net.rowsEnd(); row++) {
            int came = net.stepPlaces[row] == place ? told.cameOf(net, row) : NONE;
            if (came != NONE) {
                sum += share(came, told.begun[row], told.done[row], from, to, what);
            }
        }
        return sum;
    }

    /** What one step adds to a count over the ticks from to just ahead of to. */
    private static int share(int came, int begun, int done, int from, int to, int what) {
        switch (what) {
            case 0:
                return came >= from && came < to ? 1 : 0;
            case 1:
                return done >= from && done < to ? 1 : 0;
            case 2:
                return ticksShared(came, done, from, to);
            default:
                return ticksShared(begun, done, from, to);
        }
    }

    private static int ticksShared(int first, int end, int from, int to) {
        // A track may tell that a step was done before it came: then the step is never there.
        return Math.max(0, Math.min(end, to) - Math.max(first, from));
    }

    /** What one helper more saves; the play is fresh. */
    private long gainAt(int place) {
        trial.run(net, place);
        return play.sumOfTimes(net) - trial.sumOfTimes(net);
    }

    private void refreshPlay() {
        if (!isPlayFresh) {
            play.run(net, NONE);
            isPlayFresh = true;
        }
    }

    private void needPlace(int place) {
        if (place < 0 || place >= net.places) {
            throw new IndexOutOfBoundsException("no such place");
        }
    }

    private void needAsk(int ask) {
        if (ask < 0 || ask >= net.asks) {
            throw new IndexOutOfBoundsException("no such ask");
        }
    }

    /** The row of a step that is there. */
    private int needStep(int ask, int step) {
        needAsk(ask);
        if (step < 0 || step >= net.lengths[ask]) {
            throw new IndexOutOfBoundsException("no such step");
        }
        return net.firstRow(ask) + step;
    }

    private static void needPlaceNumbers(int helpers, int rule, int delay) {
        needWithin(helpers, 1, MAX_HELPERS);
        needWithin(rule, 0, MAX_RULE);
        needWithin(delay, 0, MAX_DELAY);
    }

    private static void needWithin(int number, int least, int most) {
        if (number < least || number > most) {
            throw new IllegalArgumentException("a number is none");
        }
    }

    private static void needWhat(int what, int most) {
        if (what < 0 || what > most) {
            throw new NoSuchElementException("no such what");
        }
    }

    /**
     * The place in a rule's order of who waits: the least rank is helped first, and of the same
     * rank the least number.
     */
    private static long rank(int rule, int came, int work, int kind) {
        switch (rule) {
            case 1:
                return -(long) came;
            case 2:
                return (long) work * NEVER + came;
            case 3:
                return (long) kind * NEVER + came;
            default:
                return came;
        }
    }

    /** The places, and the asks with their steps: each ask has MAX_STEPS rows, used or not. */
    private static final class Net {
        int places;
        int asks;
        int steps;
        final int[] helpers;
        final int[] rules;
        final int[] delays;
        final int[] kinds;
        final int[] starts;
        final int[] lengths;
        final int[] stepPlaces;
        final int[] stepWorks;

        Net() {
            places = 0;
            asks = 0;
            steps = 0;
            helpers = new int[MAX_PLACES];
            rules = new int[MAX_PLACES];
            delays = new int[MAX_PLACES];
            kinds = new int[MAX_ASKS];
            starts = new int[MAX_ASKS];
            lengths = new int[MAX_ASKS];
            stepPlaces = new int[MAX_ROWS];
            stepWorks = new int[MAX_ROWS];
            // A row that is not used belongs to no place, so that a search by place passes it.
            Arrays.fill(stepPlaces, NONE);
        }

        void setPlace(int place, int newHelpers, int newRule, int newDelay) {
            helpers[place] = newHelpers;
            rules[place] = newRule;
            delays[place] = newDelay;
        }

        int addStep(int ask, int place, int work) {
            int added = lengths[ask];
            int row = firstRow(ask) + added;
            stepPlaces[row] = place;
            stepWorks[row] = work;
            lengths[ask] = added + 1;
            steps++;
            return added;
        }

        int rowsEnd() {
            return asks * MAX_STEPS;
        }

        int firstRow(int ask) {
            return ask * MAX_STEPS;
        }

        int lastRow(int ask) {
            return firstRow(ask) + lengths[ask] - 1;
        }

        boolean isStep(int row) {
            return stepPlaces[row] != NONE;
        }
    }

    /** What was seen of the steps, by row. */
    private static final class Tracks {
        final boolean[] isSeen;
        final int[] begun;
        final int[] done;

        Tracks() {
            isSeen = new boolean[MAX_ROWS];
            begun = new int[MAX_ROWS];
            done = new int[MAX_ROWS];
        }

        void tell(int row, int newBegun, int newDone) {
            isSeen[row] = true;
            begun[row] = newBegun;
            done[row] = newDone;
        }

        int size(Net net) {
            int seenRows = 0;
            for (int row = 0; row < net.rowsEnd(); row++) {
                if (isSeen[row]) {
                    seenRows++;
                }
            }
            return seenRows;
        }

        /** When a seen step came; NONE if it was not seen, or it is not known when it came. */
        int cameOf(Net net, int row) {
            if (!isSeen[row]) {
                return NONE;
            }
            if (row % MAX_STEPS == 0) {
                return net.starts[row / MAX_STEPS];
            }
            int before = row - 1;
            return isSeen[before] ? done[before] + net.delays[net.stepPlaces[before]] : NONE;
        }
    }

    /** The seen steps of one place, and which helpers and rule would begin them as they were seen. */
    private static final class Fit {
        private int size;
        private boolean isWhole;
        private final int[] came;
        private final int[] begun;
        private final int[] done;
        private final int[] kinds;
        private final long[] ranks;

        Fit() {
            size = 0;
            isWhole = false;
            came = new int[MAX_ROWS];
            begun = new int[MAX_ROWS];
            done = new int[MAX_ROWS];
            kinds = new int[MAX_ROWS];
            ranks = new long[MAX_ROWS];
        }

        /** Takes the seen steps of a place, those of the ask of the least number first. */
        void gather(Net net, Tracks tracks, int place) {
            size = 0;
            isWhole = true;
            for (int row = 0; row < net.rowsEnd(); row++) {
                if (net.stepPlaces[row] == place) {
                    int cameAt = tracks.cameOf(net, row);
                    isWhole = isWhole && cameAt != NONE;
                    if (tracks.isSeen[row]) {
                        came[size] = cameAt;
                        begun[size] = tracks.begun[row];
                        done[size] = tracks.done[row];
                        kinds[size] = net.kinds[row / MAX_STEPS];
                        size++;
                    }
                }
            }
        }

        /** The most steps helped at one tick: at one of those at which a step is begun. */
        int mostAtOnce() {
            int most = 0;
            for (int i = 0; i < size; i++) {
                most = Math.max(most, helpedAt(begun[i]));
            }
            return most;
        }

        /**
         * The least helpers; NONE if no helpers agree with any rule. Fewer than the most that were
         * helped at once cannot be. With more, one is free at every tick, so that nobody waits: and
         * then the most at once are enough, too.
         */
        int leastHelpers() {
            return firstRule() == NONE ? NONE : mostAtOnce();
        }

        /** The first rule that agrees with the least helpers; NONE if there is none. */
        int firstRule() {
            if (!isWhole || size == 0 || !isPossible(mostAtOnce())) {
                return NONE;
            }
            for (int rule = 0; rule <= MAX_RULE; rule++) {
                if (isOrderedBy(rule)) {
                    return rule;
                }
            }
            return NONE;
        }

        /** Whether no step is begun before it came, and no helper is free while a step waits. */
        private boolean isPossible(int helpers) {
            if (helpers > MAX_HELPERS) {
                return false;
            }
            for (int i = 0; i < size; i++) {
                // That a helper is free while a step waits can only begin when one comes or is done.
                if (begun[i] < came[i] || isIdleAt(came[i], helpers) || isIdleAt(done[i], helpers)) {
                    return false;
                }
            }
            return true;
        }

        private boolean isIdleAt(int tick, int helpers) {
            for (int i = 0; i < size; i++) {
                if (isLeftAt(i, tick)) {
                    return helpedAt(tick) < helpers;
                }
            }
            return false;
        }

        /** Whether a step waits still when all that are begun at a tick are begun. */
        private boolean isLeftAt(int i, int tick) {
            return came[i] <= tick && begun[i] > tick;
        }

        private int helpedAt(int tick) {
            int helped = 0;
            for (int i = 0; i < size; i++) {
                if (begun[i] <= tick && done[i] > tick) {
                    helped++;
                }
            }
            return helped;
        }

        /** Whether a rule puts each step ahead of all that are left waiting when it is begun. */
        private boolean isOrderedBy(int rule) {
            for (int i = 0; i < size; i++) {
                ranks[i] = rank(rule, came[i], done[i] - begun[i], kinds[i]);
            }
            for (int i = 0; i < size; i++) {
                for (int j = 0; j < size; j++) {
                    if (isLeftAt(j, begun[i]) && isAhead(j, i)) {
                        return false;
                    }
                }
            }
            return true;
        }

        private boolean isAhead(int i, int j) {
            return ranks[i] < ranks[j] || ranks[i] == ranks[j] && i < j;
        }
    }

    /** When each step comes, is begun and is done in a net, by row. */
    private static final class Play {
        private static final int COMING = 0;
        private static final int WAITING = 1;
        private static final int HELPED = 2;
        private static final int GONE = 3;

        final int[] came;
        final int[] begun;
        final int[] done;
        private final int[] states;
        private final int[] rows;
        /** When an ask comes or is done next; NEVER while it waits or is gone. */
        private final int[] dues;
        private final int[] free;
        private final int[] waiting;

        Play() {
            came = new int[MAX_ROWS];
            begun = new int[MAX_ROWS];
            done = new int[MAX_ROWS];
            states = new int[MAX_ASKS];
            rows = new int[MAX_ASKS];
            dues = new int[MAX_ASKS];
            free = new int[MAX_PLACES];
            waiting = new int[MAX_PLACES];
        }

        /** Plays a net, with one helper more at the place widened, or at none. */
        void run(Net net, int widened) {
            open(net, widened);
            // At each tick that is played somebody comes or is done, and each step does so once.
            for (int turn = 0; turn < 2 * MAX_ROWS; turn++) {
                int tick = nextTick(net);
                if (tick == NEVER) {
                    return;
                }
                advance(net, tick);
                for (int place = 0; place < net.places; place++) {
                    beginAt(net, place, tick);
                }
            }
        }

        /** The sum of all asks' times from start to end. */
        long sumOfTimes(Net net) {
            long sum = 0;
            for (int ask = 0; ask < net.asks; ask++) {
                sum += done[net.lastRow(ask)] - net.starts[ask];
            }
            return sum;
        }

        int end(Net net) {
            int last = 0;
            for (int ask = 0; ask < net.asks; ask++) {
                last = Math.max(last, done[net.lastRow(ask)]);
            }
            return last;
        }

        private void open(Net net, int widened) {
            for (int place = 0; place < net.places; place++) {
                free[place] = place == widened ? net.helpers[place] + 1 : net.helpers[place];
                waiting[place] = 0;
            }
            for (int ask = 0; ask < net.asks; ask++) {
                states[ask] = COMING;
                rows[ask] = net.firstRow(ask);
                dues[ask] = net.starts[ask];
            }
        }

        private int nextTick(Net net) {
            int next = NEVER;
            for (int ask = 0; ask < net.asks; ask++) {
                next = Math.min(next, dues[ask]);
            }
            return next;
        }

        private void advance(Net net, int tick) {
            for (int ask = 0; ask < net.asks; ask++) {
                if (dues[ask] == tick) {
                    if (states[ask] == HELPED) {
                        finish(net, ask, tick);
                    } else {
                        arrive(net, ask, tick);
                    }
                }
            }
        }

        private void finish(Net net, int ask, int tick) {
            int row = rows[ask];
            int place = net.stepPlaces[row];
            free[place]++;
            if (row == net.lastRow(ask)) {
                states[ask] = GONE;
                dues[ask] = NEVER;
                return;
            }
            rows[ask] = row + 1;
            states[ask] = COMING;
            dues[ask] = tick + net.delays[place];
            if (net.delays[place] == 0) {
                arrive(net, ask, tick);
            }
        }

        private void arrive(Net net, int ask, int tick) {
            int row = rows[ask];
            came[row] = tick;
            states[ask] = WAITING;
            dues[ask] = NEVER;
            waiting[net.stepPlaces[row]]++;
        }

        private void beginAt(Net net, int place, int tick) {
            for (int turn = 0; turn < MAX_ASKS && free[place] > 0 && waiting[place] > 0; turn++) {
                int ask = firstWaiting(net, place);
                if (ask == NONE) {
                    return;
                }
                int row = rows[ask];
                begun[row] = tick;
                done[row] = tick + net.stepWorks[row];
                states[ask] = HELPED;
                dues[ask] = done[row];
                free[place]--;
                waiting[place]--;
            }
        }

        private int firstWaiting(Net net, int place) {
            int first = NONE;
            long least = 0;
            for (int ask = 0; ask < net.asks; ask++) {
                int row = rows[ask];
                if (states[ask] == WAITING && net.stepPlaces[row] == place) {
                    long own = rank(net.rules[place], came[row], net.stepWorks[row], net.kinds[ask]);
                    if (first == NONE || own < least) {
                        first = ask;
                        least = own;
                    }
                }
            }
            return first;
        }
    }
}
