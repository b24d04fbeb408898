import java.util.List;
import java.util.Random;

/**
 * Nets as large as they may be, drawn with a fixed seed. What is played of one is not played again
 * here, but held against the sentences of PLAY, which leave no other play; and what is told of sums
 * over a play, and of one helper more, against the play's own ticks.
 */
public final class PlayLawsTest {
    private static final int NETS = 1000;
    private static final int[] STARTS = {0, 5, 100, 3000, 100000};
    private static final int[] WORKS = {1, 3, 40, 1000};
    private static final int[] DELAYS = {0, 4, 1000};

    private final Random random;
    private final String name;
    private final DrawnNet net;

    private PlayLawsTest(int seed) {
        random = new Random(seed);
        name = "net " + seed;
        int[] sizes = {5, random.nextBoolean() ? 60 : 12, 5};
        net = new DrawnNet(random, sizes, oneOf(STARTS), oneOf(WORKS), oneOf(DELAYS));
        net.readPlayed();
    }

    public static void main(String[] args) {
        for (int seed = 0; seed < NETS && Due.wrongSoFar() < 5; seed++) {
            PlayLawsTest test = new PlayLawsTest(seed);
            test.comings();
            for (int place = 0; place < test.net.helpers.length; place++) {
                test.helpersOf(place);
                test.ruleOf(place);
            }
            test.sums();
            test.oneMore();
            test.traced();
            test.spans();
        }
        Due.end();
    }

    private int oneOf(int[] numbers) {
        return numbers[random.nextInt(numbers.length)];
    }

    /** "comes .. at START, to that of each next STEP when the one before is done and DELAY .. is past". */
    private void comings() {
        DrawnNet.Step before = null;
        boolean holds = true;
        for (DrawnNet.Step s : net.steps) {
            int came = s.number == 0 ? net.starts[s.ask] : before.done + net.delays[before.place];
            holds = holds && s.came == came && s.begun >= came && s.done == s.begun + s.work;
            before = s;
        }
        Due.truth("8: " + name + ": each comes, and is done, when it is due", holds);
    }

    /** "as long as it has a free helper and an ASK that waits there". */
    private void helpersOf(int place) {
        List<DrawnNet.Step> there = net.stepsAt(place);
        boolean holds = true;
        for (DrawnNet.Step s : there) {
            for (int tick : new int[] {s.came, s.begun, s.done}) {
                int helped = helpedAt(there, tick);
                holds = holds && helped <= net.helpers[place]
                        && (helped == net.helpers[place] || !isOneLeftAt(there, tick));
            }
        }
        Due.truth("8: " + name + ": no helper too many, and none that is free while one waits", holds);
    }

    private static int helpedAt(List<DrawnNet.Step> there, int tick) {
        int helped = 0;
        for (DrawnNet.Step s : there) {
            helped += s.begun <= tick && s.done > tick ? 1 : 0;
        }
        return helped;
    }

    private static boolean isOneLeftAt(List<DrawnNet.Step> there, int tick) {
        for (DrawnNet.Step s : there) {
            if (s.came <= tick && s.begun > tick) {
                return true;
            }
        }
        return false;
    }

    /** "begins with one of these": nobody who was there, and is begun later, would have been due. */
    private void ruleOf(int place) {
        List<DrawnNet.Step> there = net.stepsAt(place);
        boolean holds = true;
        for (DrawnNet.Step begun : there) {
            for (DrawnNet.Step left : there) {
                if (left.came <= begun.begun && left.begun > begun.begun) {
                    holds = holds && isDueAhead(net.rules[place], begun, left);
                }
            }
        }
        Due.truth("8: " + name + ": by the rule of place " + place, holds);
    }

    private static boolean isDueAhead(int rule, DrawnNet.Step one, DrawnNet.Step other) {
        if (rule == 1 && one.came != other.came) {
            return one.came > other.came;
        }
        if (rule == 2 && one.work != other.work) {
            return one.work < other.work;
        }
        if (rule == 3 && one.kind != other.kind) {
            return one.kind < other.kind;
        }
        return one.came != other.came ? one.came < other.came : one.ask < other.ask;
    }

    private void sums() {
        QueueReader x = net.make();
        long total = 0;
        int end = 0;
        int[] alone = net.starts.clone();
        DrawnNet.Step before = null;
        for (DrawnNet.Step s : net.steps) {
            // The last step of an ask takes back what the ones before it added.
            total += s.number == 0 ? s.done - net.starts[s.ask] : s.done - before.done;
            end = Math.max(end, s.done);
            alone[s.ask] += s.work + (s.number == 0 ? 0 : net.delays[before.place]);
            before = s;
        }
        Due.answer("14: " + name, total, x::total);
        Due.answer("18: " + name + ": the end", end, () -> x.count(4));
        Due.answer("18: " + name + ": steps", net.steps.size(), () -> x.count(2));
        Due.answer("18: " + name + ": asks", net.starts.length, () -> x.count(1));
        for (int i = 0; i < alone.length; i++) {
            int ask = i;
            Due.answer("17: " + name + ": ask " + ask, alone[ask], () -> x.alone(ask));
        }
    }

    /** A net that was made with one helper more is played as the one that is asked of it. */
    private void oneMore() {
        QueueReader x = net.make();
        int best = 0;
        for (int p = 0; p < net.helpers.length; p++) {
            int place = p;
            if (net.helpers[p] < 8) {
                Due.answer("15: " + name + ": place " + p, x.total() - net.makeWithOneMore(p).total(),
                        () -> x.saved(place));
            }
            best = x.saved(p) > x.saved(best) ? p : best;
        }
        Due.answer("16: " + name, best, x::narrow);
    }

    private void traced() {
        QueueReader x = net.make();
        Due.answer("9: " + name, net.steps.size(), x::trace);
        Due.answer("18: " + name + ": seen", net.steps.size(), () -> x.count(3));
        Due.answer("10: " + name, 0, x::unlike);
        for (int p = 0; p < net.helpers.length; p++) {
            int place = p;
            List<DrawnNet.Step> there = net.stepsAt(p);
            int most = 0;
            for (DrawnNet.Step s : there) {
                most = Math.max(most, helpedAt(there, s.begun));
            }
            Due.answer("12: " + name + ": place " + p, most, () -> x.overlap(place));
        }
    }

    /** "over its ticks": each tick by itself, over spans in which some step came, was begun or was done. */
    private void spans() {
        QueueReader x = net.make();
        x.trace();
        for (int turn = 0; turn < 8; turn++) {
            DrawnNet.Step near = net.steps.get(random.nextInt(net.steps.size()));
            int from = Math.max(0, oneOf(new int[] {near.came, near.begun, near.done}) - random.nextInt(3));
            int to = from + random.nextInt(200);
            for (int w = 0; w <= 3; w++) {
                int what = w;
                long want = sumOfTicks(net.stepsAt(near.place), from, to, what);
                String about = "13: " + name + ": place " + near.place + " from " + from + " to " + to + " what " + w;
                Due.answer(about, want, () -> x.counts(near.place, false, from, to, what));
                Due.answer(about + ", by tracks", want, () -> x.counts(near.place, true, from, to, what));
            }
        }
    }

    private static long sumOfTicks(List<DrawnNet.Step> there, int from, int to, int what) {
        long sum = 0;
        for (int tick = from; tick < to; tick++) {
            for (DrawnNet.Step s : there) {
                boolean isOne = what == 0 ? s.came == tick
                        : what == 1 ? s.done == tick
                        : what == 2 ? s.came <= tick && s.done > tick
                        : s.begun <= tick && s.done > tick;
                sum += isOne ? 1 : 0;
            }
        }
        return sum;
    }
}
