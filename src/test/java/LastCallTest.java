/**
 * "An object is used for at most 512 calls after it has been made": up to the 512th each call answers
 * as it should, on a full object, too, and many objects are nothing to one another.
 */
public final class LastCallTest {
    private static final int CALLS = 512;

    public static void main(String[] args) {
        fullAndChanged();
        seenAgainAndAgain();
        refusedAgainAndAgain();
        objectsSideBySide();
        Due.end();
    }

    /** 301 calls make 300 steps of work 1 at one place: with so many helpers done at 300 / helpers, rounded up. */
    private static void fullAndChanged() {
        QueueReader x = Sample.withPlaces(1, 1);
        Sample.fill(x, 60, 0, 1);
        int calls = 301;
        for (int turn = 0; calls < CALLS - 2; turn++) {
            int helpers = 1 + turn % 8;
            x.change(0, helpers, 0, 0);
            Due.answer("8: call " + (calls + 2) + ", helpers " + helpers, (300 + helpers - 1) / helpers,
                    () -> x.count(4));
            calls += 2;
        }
        Due.answer("9: the 512th call", 300, x::trace);
    }

    private static void seenAgainAndAgain() {
        QueueReader x = new QueueReader();
        x.place(1, 0, 0);
        x.ask(0, 0, 0, 1);
        int calls = 2;
        for (int tick = 0; calls < CALLS - 2; tick++) {
            int begun = tick;
            x.seen(0, 0, begun, begun + 7);
            Due.answer("6: call " + (calls + 2), 7, () -> x.counts(0, true, begun, begun + 7, 3));
            calls += 2;
        }
        Due.answer("18: one is seen", 1, () -> x.count(3));
        Due.answer("7: the 512th call", 1, () -> Calls.unsee(x, 0, 0));
    }

    private static void refusedAgainAndAgain() {
        QueueReader x = new QueueReader();
        for (int call = 1; call < CALLS; call++) {
            if (call % 2 == 0) {
                Due.noArgument("2: call " + call, () -> x.place(9, 0, 0));
            } else {
                Due.noIndex("4: call " + call, () -> x.ask(0, 0, 0, 1));
            }
        }
        Due.answer("2: the 512th call", 0, () -> x.place(1, 0, 0));
    }

    private static void objectsSideBySide() {
        QueueReader[] all = new QueueReader[20];
        for (int i = 0; i < all.length; i++) {
            all[i] = new QueueReader();
        }
        for (QueueReader x : all) {
            x.place(1, 0, 0);
            x.place(1, 1, 5);
        }
        for (int i = 0; i < all.length; i++) {
            for (int n = 0; n <= i; n++) {
                all[i].ask(0, 0, n % 2, 1 + i);
            }
        }
        for (int i = 0; i < all.length; i++) {
            QueueReader x = all[i];
            int asks = i + 1;
            Due.answer("1: asks of object " + i, asks, () -> x.count(1));
            Due.answer("1: end of object " + i, (asks + 1) / 2 * asks, () -> x.count(4));
            Due.answer("1: seen of object " + i, 0, () -> x.count(3));
            x.trace();
        }
    }
}
