/** The largest games, against Naive. */
public final class LargeTest {
    private LargeTest() {
    }

    public static void main(String[] args) {
        compare("game 5 5 4 4", 3);
        compare("game 5 4 3 4", -9);
        compare("game 4 5 4 3", 1234567);
        Due.end("LargeTest");
    }

    private static void compare(String text, int seed) {
        ApartGames g = Told.game(text);
        Naive n = new Naive();
        n.feed(Told.four(text, 0), Told.four(text, 4), Told.four(text, 8), 0, 0);
        n.end(text.length());
        n.tell();
        Due.is("draw() of " + text, g.draw(seed), n.draw(seed));
        for (int what = 0; what < 5; what++) {
            Due.is("worth(" + what + ") of " + text, g.worth(what), n.worth(what));
        }
        for (int what = 0; what < 2; what++) {
            Due.is("sure(" + what + ") of " + text, g.sure(what), n.sure(what));
            Due.is("mean(" + what + ") of " + text, g.mean(what), n.mean(what));
            Due.is("talk(" + what + ") of " + text, g.talk(what), n.talk(what));
            Due.is("best(1, " + what + ") of " + text, g.best(1, what), n.best(1, what));
        }
        Due.is("bests() of " + text, g.bests(), n.bests());
        Due.is("lost(1, 2) of " + text, g.lost(1, 2), n.lost(1, 2));
        Due.is("cut(3, 3) of " + text, g.cut(3, 3), n.cut(3, 3));
        Due.is("without(1, 3) of " + text, g.without(1, 3), n.without(1, 3));
        Due.is("climb() of " + text, g.climb(0, 0, 0), n.climb(0, 0, 0));
        Due.is("letter(NONE) of " + text, g.letter(-1), n.letter(-1));
    }
}
