import java.util.ArrayList;
import java.util.List;
import java.util.Random;

/** A net drawn with a seed, as large as it may be, which can be made as often as a test needs it. */
public final class DrawnNet {
    /** Of one object. */
    public static final int MOST_CALLS = 512;

    /** A step as a test knows it: who asks, where, and when it came, was begun and was done. */
    public static final class Step {
        public final int ask;
        public final int number;
        public final int kind;
        public final int place;
        public final int work;
        public int came;
        public int begun;
        public int done;

        Step(int ask, int number, int kind, int place, int work) {
            this.ask = ask;
            this.number = number;
            this.kind = kind;
            this.place = place;
            this.work = work;
        }
    }

    public final int[] helpers;
    public final int[] rules;
    public final int[] delays;
    public final int[] starts;
    /** All steps, those of the least ask first, and of these the least number. */
    public final List<Step> steps = new ArrayList<>();

    public DrawnNet(Random random, int[] sizes, int mostStart, int mostWork, int mostDelay) {
        int places = 1 + random.nextInt(sizes[0]);
        helpers = new int[places];
        rules = new int[places];
        delays = new int[places];
        int mostHelpers = 1 + random.nextInt(8);
        for (int i = 0; i < places; i++) {
            helpers[i] = 1 + random.nextInt(mostHelpers);
            rules[i] = random.nextInt(4);
            delays[i] = random.nextInt(mostDelay + 1);
        }
        starts = new int[1 + random.nextInt(sizes[1])];
        for (int ask = 0; ask < starts.length; ask++) {
            starts[ask] = random.nextInt(mostStart + 1);
            int kind = random.nextInt(4);
            int length = 1 + random.nextInt(sizes[2]);
            for (int s = 0; s < length; s++) {
                steps.add(new Step(ask, s, kind, random.nextInt(places), 1 + random.nextInt(mostWork)));
            }
        }
    }

    /** A new object with this net in it. */
    public QueueReader make() {
        return makeWithOneMore(-1);
    }

    /** The same with one helper more at a place. */
    public QueueReader makeWithOneMore(int place) {
        QueueReader x = new QueueReader();
        for (int i = 0; i < helpers.length; i++) {
            x.place(i == place ? helpers[i] + 1 : helpers[i], rules[i], delays[i]);
        }
        for (Step s : steps) {
            if (s.number == 0) {
                x.ask(s.kind, starts[s.ask], s.place, s.work);
            } else {
                x.step(s.ask, s.place, s.work);
            }
        }
        return x;
    }

    /** How many calls an object that was just made has left. */
    public int callsLeft() {
        return MOST_CALLS - helpers.length - steps.size();
    }

    /** Reads from new objects when each step came, was begun and was done. */
    public void readPlayed() {
        QueueReader x = make();
        int left = callsLeft();
        for (Step s : steps) {
            if (left < 3) {
                x = make();
                left = callsLeft();
            }
            s.came = x.played(s.ask, s.number, 0);
            s.begun = x.played(s.ask, s.number, 1);
            s.done = x.played(s.ask, s.number, 2);
            left -= 3;
        }
    }

    public List<Step> stepsAt(int place) {
        List<Step> there = new ArrayList<>();
        for (Step s : steps) {
            if (s.place == place) {
                there.add(s);
            }
        }
        return there;
    }
}
