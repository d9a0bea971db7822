/** Numbers that are nowhere: no call throws, and what is refused changes nothing. */
public final class ExtremesTest {
    private static final int[] NUMBERS = {Integer.MIN_VALUE, Integer.MIN_VALUE + 1, -1000000000, -11, -3, -2, -1, 0, 1,
        2, 3, 4, 5, 9, 12, 13, 31, 32, 33, 400, 44444, 99999, 100000, 1111111111, Integer.MAX_VALUE};
    private static final String[] TEXTS = {"", "game 1 1 2 2", "game 2 2 4 4;alike 0 0;even 1 1;box 0 0 0 0 12",
        "game 5 5 4 4;odd 4 4", "game 4 4 2 2"};

    private ExtremesTest() {
    }

    public static void main(String[] args) {
        for (String text : TEXTS) {
            for (int method = 0; method < 42; method++) {
                goThrough(text, method);
            }
        }
        Due.end("ExtremesTest");
    }

    // A new object each time: an object is for 512 calls.
    private static void goThrough(String text, int method) {
        ApartGames games = fresh(text);
        String before = Told.letters(games);
        int calls = 0;
        for (int p : NUMBERS) {
            for (int q : NUMBERS) {
                long answered = call(games, method, p, q);
                calls++;
                boolean refused = answered == ApartGames.NONE || answered == -2;
                if (isAct(method) && refused) {
                    Due.is("acts refused by method " + method, games.count(5), 0);
                    Due.holds("text as it was, method " + method, Told.letters(games).equals(before));
                }
                if (isAct(method) && !refused || calls % 100 == 0) {
                    games = fresh(text);
                }
            }
        }
        Due.holds("method " + method + " was called", calls > 0);
    }

    private static ApartGames fresh(String text) {
        ApartGames games = new ApartGames();
        if (!text.isEmpty()) {
            Told.tell(games, text);
        }
        return games;
    }

    private static boolean isAct(int method) {
        return method >= 3 && method <= 12;
    }

    private static long call(ApartGames g, int method, int p, int q) {
        return method < 17 ? change(g, method, p, q) : method < 29 ? ask(g, method, p, q) : askMore(g, method, p, q);
    }

    private static int change(ApartGames g, int method, int p, int q) {
        switch (method) {
            case 0: return g.feed(p, q, p, q, p);
            case 1: return g.end(p);
            case 2: return g.tell();
            case 3: return g.weigh(p, q, p);
            case 4: return g.decide(p, 0, q, 0);
            case 5: return g.parity(p, 0, q);
            case 6: return g.exchange(p, q, p, q);
            case 7: return g.swap();
            case 8: return g.drop(p, q);
            case 9: return g.copy(p, q);
            case 10: return g.box(0, p, 0, 0, q);
            case 11: return g.mix(p, q, 1);
            case 12: return g.draw(p);
            case 13: return g.undo();
            case 14: return g.keep(p);
            case 15: return g.back(p);
            default: return g.wins(p, q, q, p);
        }
    }

    private static long ask(ApartGames g, int method, int p, int q) {
        switch (method) {
            case 17: return g.weight(p, q);
            case 18: return g.worth(p);
            case 19: return g.sure(p);
            case 20: return g.play(p, q);
            case 21: return g.hangs(p, q);
            case 22: return g.reply(p, q);
            case 23: return g.bests();
            case 24: return g.best(p, q);
            case 25: return g.lost(p, q);
            case 26: return g.mean(p);
            case 27: return g.talk(p);
            default: return g.without(p, q);
        }
    }

    private static int askMore(ApartGames g, int method, int p, int q) {
        switch (method) {
            case 29: return g.lesser(p, q, 0, 1);
            case 30: return g.same(p, q, 0);
            case 31: return g.climb(p, q, 0);
            case 32: return g.cut(p, q);
            case 33: return g.parts(p);
            case 34: return g.sign(p, q);
            case 35: return g.bias(p);
            case 36: return g.twice(p);
            case 37: return g.product();
            case 38: return g.boxed(p);
            case 39: return g.marginal(p, q, q, p);
            case 40: return g.symmetries();
            default: return g.letter(p) + g.count(q);
        }
    }
}
