import java.lang.management.ManagementFactory;

/** One object is small, and no call makes objects: all calls of a run live in one room. */
public final class RoomTest {
    private static final com.sun.management.ThreadMXBean THREADS =
            (com.sun.management.ThreadMXBean) ManagementFactory.getThreadMXBean();

    private RoomTest() {
    }

    public static void main(String[] args) {
        use(new ApartGames());
        long start = bytes();
        ApartGames games = new ApartGames();
        long made = bytes() - start;
        Due.holds("an object takes " + made + " bytes, at the most 400000", made <= 400000);
        start = bytes();
        use(games);
        long used = bytes() - start;
        // What little there is comes from the counting itself.
        Due.holds("calls take " + used + " bytes, at the most 1000", used <= 1000);
        Due.end("RoomTest");
    }

    private static long bytes() {
        return THREADS.getThreadAllocatedBytes(Thread.currentThread().getId());
    }

    private static void use(ApartGames g) {
        // "game 2 2 4 4;even 0 0"
        g.feed(0x67616d65, 0x20322032, 0x20342034, 0x3b657665, 0x6e302030);
        g.tell();
        g.weigh(0, 0, 3);
        g.decide(0, 0, 0, 1);
        g.parity(0, 1, 1);
        g.exchange(0, 0, 0, 1);
        g.swap();
        g.copy(0, 1);
        g.drop(0, 0);
        g.box(0, 0, 0, 0, 3);
        g.mix(0, 0, 2);
        g.draw(17);
        g.undo();
        g.keep(0);
        g.back(0);
        ask(g);
        askMore(g);
    }

    private static void ask(ApartGames g) {
        for (int what = 0; what < 5; what++) {
            g.worth(what);
        }
        g.sure(0);
        g.sure(1);
        g.play(0, 0);
        g.hangs(0, 0);
        g.reply(0, 0);
        g.bests();
        g.best(0, 0);
        g.best(0, 1);
        g.lost(0, 0);
        g.mean(0);
        g.talk(0);
        g.without(0, 0);
        g.cut(0, 0);
        g.lesser(0, 0, 0, 1);
        g.same(0, 0, 1);
        g.climb(0, 0, 0);
    }

    private static void askMore(ApartGames g) {
        for (int what = 0; what < 4; what++) {
            g.parts(what);
            g.bias(what);
            g.twice(what);
            g.boxed(what);
        }
        g.sign(0, 0);
        g.product();
        g.marginal(0, 0, 0, 0);
        g.symmetries();
        g.letter(-1);
        g.letter(30);
        g.count(4);
        // "game 4 5 2 2;even 0 0", then a parity game
        g.feed(0x67616d65, 0x20342035, 0x20322032, 0x3b657665, 0x6e302030);
        g.tell();
        for (int x = 0; x < 4; x++) {
            for (int y = 0; y < 5; y++) {
                g.parity(x, y, x * y % 2);
            }
        }
        g.bias(0);
        g.product();
    }
}
