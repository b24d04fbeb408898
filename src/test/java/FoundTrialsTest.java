import java.util.ArrayList;
import java.util.List;
import java.util.Random;

/**
 * Promise 11 by trial: the place alone is a net of its own, with an ask for each step that comes when
 * the step came and takes what lies between begun and done. All helpers and rules are tried there,
 * the least first, until all is played as it was seen.
 */
public final class FoundTrialsTest {
    private static final int NETS = 2000;
    private static final int[] STARTS = {0, 5, 60, 400};
    private static final int[] WORKS = {1, 3, 12};

    private static final int[] foundHelpers = new int[9];
    private static final int[] foundRules = new int[4];
    private static int foundNone = 0;

    private final Random random;
    private final String name;
    private final DrawnNet net;
    private final QueueReader reader;

    private FoundTrialsTest(int seed) {
        random = new Random(seed);
        name = "net " + seed;
        // 30 asks of 2 steps, all at one place, are as many as a net of the place alone can have asks.
        net = new DrawnNet(random, new int[] {1 + random.nextInt(3), 30, 2}, oneOf(STARTS), oneOf(WORKS), 2);
        net.readPlayed();
        reader = net.make();
        reader.trace();
    }

    public static void main(String[] args) {
        for (int seed = 0; seed < NETS && Due.wrongSoFar() < 5; seed++) {
            FoundTrialsTest test = new FoundTrialsTest(seed);
            test.checkAll("as played");
            test.serveAnew(test.random.nextInt(test.net.helpers.length));
            test.checkAll("served anew");
            for (int turn = 0; turn < 3; turn++) {
                test.tellOneWrong();
                test.checkAll("told wrong, " + turn);
            }
        }
        everyKindWasThere();
        Due.end();
    }

    private int oneOf(int[] numbers) {
        return numbers[random.nextInt(numbers.length)];
    }

    private void tell(DrawnNet.Step s, int begun, int done) {
        if (begun >= 0 && done > begun) {
            s.begun = begun;
            s.done = done;
            reader.seen(s.ask, s.number, begun, done);
        }
    }

    /** The steps of a place are seen as other helpers by another rule, with other works, would begin them. */
    private void serveAnew(int place) {
        List<DrawnNet.Step> there = net.stepsAt(place);
        QueueReader alone = new QueueReader();
        alone.place(1 + random.nextInt(8), random.nextInt(4), 0);
        for (DrawnNet.Step s : there) {
            alone.ask(s.kind, cameByTracks(s), 0, 1 + random.nextInt(9));
        }
        for (int i = 0; i < there.size(); i++) {
            tell(there.get(i), alone.played(i, 0, 1), alone.played(i, 0, 2));
        }
    }

    private void tellOneWrong() {
        DrawnNet.Step s = net.steps.get(random.nextInt(net.steps.size()));
        List<DrawnNet.Step> there = net.stepsAt(s.place);
        DrawnNet.Step other = there.get(random.nextInt(there.size()));
        int by = random.nextInt(3) - 1;
        switch (random.nextInt(3)) {
            case 0:
                tell(s, s.begun + by, s.done + by);
                break;
            case 1:
                tell(s, s.begun, s.done + by);
                break;
            default:
                int begun = s.begun;
                int done = s.done;
                tell(s, other.begun, other.done);
                tell(other, begun, done);
                break;
        }
    }

    private int cameByTracks(DrawnNet.Step s) {
        if (s.number == 0) {
            return net.starts[s.ask];
        }
        DrawnNet.Step before = net.steps.get(net.steps.indexOf(s) - 1);
        return before.done + net.delays[before.place];
    }

    private void checkAll(String state) {
        for (int p = 0; p < net.helpers.length; p++) {
            int place = p;
            int[] want = byTrial(net.stepsAt(p));
            String about = "11: " + name + ", " + state + ": place " + p;
            Due.answer(about + ": helpers", want[0], () -> reader.found(place, false));
            Due.answer(about + ": rule", want[1], () -> reader.found(place, true));
            if (want[0] < 0) {
                foundNone++;
            } else {
                foundHelpers[want[0]]++;
                foundRules[want[1]]++;
            }
        }
    }

    private int[] byTrial(List<DrawnNet.Step> there) {
        QueueReader alone = new QueueReader();
        alone.place(1, 0, 0);
        for (int i = 0; i < there.size(); i++) {
            DrawnNet.Step s = there.get(i);
            alone.ask(s.kind, cameByTracks(s), 0, s.done - s.begun);
            alone.seen(i, 0, s.begun, s.done);
        }
        for (int helpers = 1; helpers <= 8 && !there.isEmpty(); helpers++) {
            for (int rule = 0; rule <= 3; rule++) {
                alone.change(0, helpers, rule, 0);
                if (alone.unlike() == 0) {
                    return new int[] {helpers, rule};
                }
            }
        }
        return new int[] {-1, -1};
    }

    /** The trials would tell little if they found always the same. */
    private static void everyKindWasThere() {
        List<String> seldom = new ArrayList<>();
        for (int helpers = 1; helpers <= 8; helpers++) {
            if (foundHelpers[helpers] < 5) {
                seldom.add("helpers " + helpers);
            }
        }
        for (int rule = 0; rule <= 3; rule++) {
            if (foundRules[rule] < 5) {
                seldom.add("rule " + rule);
            }
        }
        if (foundNone < 5) {
            seldom.add("none");
        }
        Due.same("11: found too seldom to be tested", seldom.toString(), "[]");
    }
}
