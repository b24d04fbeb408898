/** Promise 13: counts. */
public final class CountsTest {
    public static void main(String[] args) {
        byPlay();
        byTracks();
        Due.end();
    }

    private static void counts(String about, QueueReader x, boolean tracks, int from, int to, int... want) {
        for (int what = 0; what < 4; what++) {
            int w = what;
            Due.answer("13: " + about + " from " + from + " to " + to + " what " + what, want[what],
                    () -> x.counts(0, tracks, from, to, w));
        }
    }

    /** At place 0: ask 0 from 2 to 6, ask 1 came at 3, begun at 6, done at 11. */
    private static QueueReader twoAsks() {
        QueueReader x = new QueueReader();
        x.place(1, 0, 0);
        x.place(1, 0, 0);
        x.ask(0, 2, 0, 4);
        x.ask(0, 3, 0, 5);
        x.ask(0, 4, 1, 3);
        return x;
    }

    private static void byPlay() {
        QueueReader x = twoAsks();
        counts("play, all", x, false, 0, 100, 2, 2, 12, 9);
        counts("play, to the greatest tick", x, false, 0, 10000000, 2, 2, 12, 9);
        counts("play, no tick", x, false, 5, 5, 0, 0, 0, 0);
        counts("play, no tick at all", x, false, 0, 0, 0, 0, 0, 0);
        counts("play, no tick at the end", x, false, 10000000, 10000000, 0, 0, 0, 0);
        counts("play, ahead of all", x, false, 0, 2, 0, 0, 0, 0);
        counts("play, the first tick", x, false, 2, 3, 1, 0, 1, 1);
        counts("play, one waits", x, false, 3, 4, 1, 0, 2, 1);
        counts("play, done and begun", x, false, 6, 7, 0, 1, 1, 1);
        counts("play, within", x, false, 4, 8, 0, 1, 6, 4);
        counts("play, up to the end", x, false, 4, 11, 0, 1, 9, 7);
        counts("play, behind the end", x, false, 11, 12, 0, 1, 0, 0);
        x.seen(0, 0, 50, 60);
        counts("play, tracks are nothing to it", x, false, 0, 100, 2, 2, 12, 9);
        x.change(0, 2, 0, 0);
        counts("play, with two helpers", x, false, 0, 100, 2, 2, 9, 9);
        x.step(2, 0, 1);
        counts("play, with a step more", x, false, 0, 100, 3, 3, 10, 10);
    }

    private static void byTracks() {
        QueueReader x = twoAsks();
        counts("tracks, none", x, true, 0, 100, 0, 0, 0, 0);
        x.trace();
        counts("tracks, all", x, true, 0, 100, 2, 2, 12, 9);
        counts("tracks, within", x, true, 4, 8, 0, 1, 6, 4);
        x.seen(1, 0, 8, 10);
        counts("tracks, told otherwise", x, true, 0, 100, 2, 2, 11, 6);
        x.unsee(1, 0);
        counts("tracks, one is not seen", x, true, 0, 100, 1, 1, 4, 4);
        x.step(2, 0, 1);
        x.seen(2, 1, 20, 25);
        counts("tracks, it is known when it came", x, true, 0, 100, 2, 2, 22, 9);
        x.change(1, 1, 0, 6);
        counts("tracks, it came behind the delay", x, true, 0, 100, 2, 2, 16, 9);
        counts("tracks, at the tick", x, true, 13, 14, 1, 0, 1, 0);
        x.unsee(2, 0);
        counts("tracks, it is not known when it came", x, true, 0, 100, 1, 1, 4, 4);
    }
}
