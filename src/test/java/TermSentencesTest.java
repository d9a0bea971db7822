import java.util.List;
import java.util.function.ToIntFunction;

/** Sentence by sentence: the second part of the terms. */
public final class TermSentencesTest {
    private static final int NONE = ApartGames.NONE;

    private TermSentencesTest() {
    }

    public static void main(String[] args) throws java.io.IOException {
        Sentences.open(args, "II");
        rows();
        worth();
        sign();
        parityGame();
        squares();
        twice();
        withItself();
        box();
        acts();
        lastTen();
        ringOfTen();
        shelves();
        noneAhead();
        places();
        constants();
        Sentences.end("TermSentencesTest");
    }

    private static void rows() {
        Sentences.says("II", "A ROW of a player: an ANSWER to each QUESTION; told by a number, its digits the ANSWERS, "
                + "that to QUESTION 0 the first (of 3 QUESTIONS 12 is 0, 1, 2)");
        ApartGames g = Told.game("game 3 1 3 2;weight 0 0 1;weight 1 0 2;weight 2 0 4;win 0 0 0 0;win 1 0 1 0;win 2 0 2 0");
        Due.is("play(12, 0)", g.play(12, 0), 7);
        Due.is("play(210, 0)", g.play(210, 0), 2);
        Due.is("play(2, 0)", g.play(2, 0), 5);
        Due.is("play(222, 0), the last row", g.play(222, 0), 4);
        Due.is("play(0, 0), the first row", g.play(0, 0), 1);
        Due.is("play(300, 0), no answer 3 to question 0", g.play(300, 0), NONE);
        Due.is("play(30, 0), no answer 3 to question 1", g.play(30, 0), NONE);
        Due.is("play(3, 0), no answer 3 to question 2", g.play(3, 0), NONE);
        Due.is("play(1012, 0), a digit too many", g.play(1012, 0), NONE);
        Due.is("play(12, 2), no answer 2 of Ben's", g.play(12, 2), NONE);
        Due.is("reply(0, 0)", g.reply(0, 0), 12);
        Due.is("reply(0, 1)", g.reply(0, 1), 0);
        Sentences.says("II", "ROWS rise as these numbers");
        g = Told.game("game 2 1 4 2");
        for (int k = 0; k < 32; k++) {
            Due.is("best(" + k + ", 0)", g.best(k, 0), k / 8 * 10 + k / 2 % 4);
            Due.is("best(" + k + ", 1)", g.best(k, 1), k % 2);
        }
    }

    private static void worth() {
        Sentences.says("II", "Two ROWS, one of each, are WORTH: the WEIGHTS together of all x, y at which a, b by them "
                + "WIN; the others are LOST");
        ApartGames g = Told.game("game 2 2 2 2;weight 0 0 0;weight 0 1 9;weight 1 0 4;even 0 0;even 0 1;even 1 0;even 1 1");
        Due.is("play(0, 0)", g.play(0, 0), 14);
        Due.is("play(0, 11)", g.play(0, 11), 0);
        Due.is("play(1, 0)", g.play(1, 0), 9);
        Due.is("play(1, 1)", g.play(1, 1), 1);
        Due.is("lost(0, 0) of two best twos", g.lost(0, 0), 0);
        g.weigh(1, 1, 0);
        g.weigh(1, 0, 0);
        g.weigh(0, 0, 0);
        // Eight twos win at 0, 1; half of them lose at each of the others, though these weigh nothing.
        Due.is("bests()", g.bests(), 8);
        Due.is("lost(0, 1)", g.lost(0, 1), 0);
        Due.is("lost(1, 0)", g.lost(1, 0), 4);
    }

    private static void sign() {
        Sentences.says("II", "SIGN of x, y: 1 if just those WIN whose a and b together are even, -1 if just those that are "
                + "odd; else it has none");
        for (int na = 2; na <= 4; na++) {
            for (int nb = 2; nb <= 4; nb++) {
                String head = "game 1 1 " + na + " " + nb;
                Due.is("sign of even, " + head, Told.game(head + ";even 0 0").sign(0, 0), 1);
                Due.is("sign of odd, " + head, Told.game(head + ";odd 0 0").sign(0, 0), -1);
                Due.is("sign of nothing, " + head, Told.game(head).sign(0, 0), 0);
                Due.is("sign of all, " + head, Told.game(head + ";odd 0 0;even 0 0").sign(0, 0), 0);
                Due.is("sign of alike, " + head, Told.game(head + ";alike 0 0").sign(0, 0), na + nb == 4 ? 1 : 0);
                Due.is("sign of unlike, " + head, Told.game(head + ";unlike 0 0").sign(0, 0), na + nb == 4 ? -1 : 0);
                oneAmiss(head, na, nb);
            }
        }
    }

    // One a, b that wins and should not, or does not and should, is enough to have no sign.
    private static void oneAmiss(String head, int na, int nb) {
        for (String word : new String[] {";even 0 0", ";odd 0 0"}) {
            ApartGames g = Told.game(head + word);
            int due = g.sign(0, 0);
            for (int i = 0; i < na * nb; i++) {
                g.decide(0, 0, i / nb, i % nb);
                Due.is("sign amiss at " + i + " of" + word, g.sign(0, 0), 0);
                g.decide(0, 0, i / nb, i % nb);
                Due.is("sign mended at " + i + " of" + word, g.sign(0, 0), due);
            }
        }
    }

    private static void parityGame() {
        Sentences.says("II", "A PARITY GAME: both have 2 ANSWERS, and each x, y with a WEIGHT above 0 has a SIGN");
        for (int na = 2; na <= 4; na++) {
            for (int nb = 2; nb <= 4; nb++) {
                ApartGames g = Told.game("game 1 1 " + na + " " + nb + ";even 0 0");
                Due.is("bias(0) of " + na + " by " + nb, g.bias(0), na + nb == 4 ? 1 : -2000);
                Due.is("product() of " + na + " by " + nb, g.product(), na + nb == 4 ? 1 : -2000);
            }
        }
        ApartGames g = Told.game("game 2 2 2 2;even 0 0;even 0 1;even 1 0");
        Due.is("bias(0), the last without a sign", g.bias(0), -2000);
        g.weigh(1, 1, 0);
        Due.is("bias(0), that weighs nothing", g.bias(0), 3);
        Due.is("product(), that weighs nothing", g.product(), 9);
        g.weigh(1, 1, 1);
        g.parity(1, 1, 1);
        Due.is("bias(0), that has a sign", g.bias(0), 2);
        g.decide(0, 0, 1, 1);
        Due.is("bias(0), the first without a sign", g.bias(0), -2000);
    }

    private static void squares() {
        Sentences.says("II", "SQUARES: two x by two y, all four with a WEIGHT above 0");
        int[] pairs = {0, 0, 1, 3, 6, 10};
        for (int nx = 1; nx <= 5; nx++) {
            for (int ny = 1; ny <= 5; ny++) {
                ApartGames g = Told.game("game " + nx + " " + ny + " 2 2");
                for (int i = 0; i < nx * ny; i++) {
                    g.parity(i / ny, i % ny, 0);
                }
                Due.is("bias(1) of " + nx + " by " + ny, g.bias(1), pairs[nx] * pairs[ny]);
                Due.is("bias(2) of " + nx + " by " + ny, g.bias(2), 0);
                g.weigh(nx - 1, ny - 1, 0);
                Due.is("bias(1), one weighs nothing", g.bias(1), pairs[nx] * pairs[ny] - (nx - 1) * (ny - 1));
            }
        }
        Sentences.says("II", "CROSSED: the four SIGNS multiplied are -1");
        for (int signs = 0; signs < 16; signs++) {
            ApartGames g = Told.game("game 2 2 2 2");
            for (int i = 0; i < 4; i++) {
                g.parity(i / 2, i % 2, signs >> i & 1);
                g.weigh(i / 2, i % 2, 2 + i);
            }
            Due.is("bias(1) of signs " + signs, g.bias(1), 1);
            Due.is("bias(2) of signs " + signs, g.bias(2), Integer.bitCount(signs) % 2);
        }
    }

    private static void twice() {
        Sentences.says("II", "TWICE: two x, two y (each two in order) are asked at once, by the product of both WEIGHTS");
        ApartGames g = Told.game("game 2 2 2 2;weight 0 0 9;weight 0 1 2;weight 1 0 0;weight 1 1 3;even 0 0;odd 0 0;even 0 1;"
                + "odd 0 1;even 1 1;odd 1 1");
        Due.is("twice(0) where all wins", g.twice(0), 14 * 14);
        Due.is("twice(1) where all wins", g.twice(1), 14 * 14);
        Due.is("twice(0), both orders", Told.game("game 2 1 2 2;weight 0 0 2;weight 1 0 3;even 0 0").twice(0), 4);
        Due.is("twice(1), both orders", Told.game("game 2 1 2 2;weight 0 0 2;weight 1 0 3;even 0 0").twice(1), 16);
        Sentences.says("II", "each gives two ANSWERS, each of which may be by both of his QUESTIONS");
        // Feige's game: both name one of the two questions alike, and by both questions they can do so twice as well.
        g = Told.game("game 2 2 4 4;win 0 0 0 0;win 0 1 0 0;win 1 0 1 1;win 1 1 1 1;win 0 0 2 2;win 0 1 3 3;"
                + "win 1 0 2 2;win 1 1 3 3");
        Due.is("Feige's game once", g.worth(0), 2);
        Due.is("Feige's game twice: as often as once", g.twice(0), 8);
        Due.is("CHSH twice: 10, by rows of each 9", Told.game(Sentences.CHSH).twice(0), 10);
        g.swap();
        Due.is("Feige's game twice, players exchanged", g.twice(0), 8);
    }

    private static void withItself() {
        Sentences.says("II", "WITH ITSELF (a PARITY GAME): two x, two y are asked likewise, each gives one ANSWER, 0 or 1, by "
                + "both of his QUESTIONS: the product of both WEIGHTS and both SIGNS (0 where a WEIGHT is 0) counts as it "
                + "is, if the ANSWERS are alike, else with the other sign");
        Due.is("product() of CHSH, above its bias times itself", Told.game(Sentences.CHSH).product(), 8);
        Due.is("product() of one", Told.game("game 1 1 2 2;odd 0 0;weight 0 0 7").product(), 49);
        // Nothing is crossed: all of 2 + 3 + 4 counts.
        Due.is("product() of three", Told.game("game 1 3 2 2;odd 0 0;weight 0 0 2;even 0 1;weight 0 1 3;odd 0 2;"
                + "weight 0 2 4").product(), 81);
        Due.is("product(), weight 0 without a sign", Told.game("game 1 2 2 2;odd 0 0;weight 0 1 0").product(), 1);
        Due.is("product(), weight 0 with a sign", Told.game(Sentences.CHSH + ";weight 1 1 0").product(), 9);
    }

    private static void box() {
        Sentences.says("II", "BOX: its WORTH: over all x, y, a, b that WIN the WEIGHT times what it tells there, together");
        ApartGames g = Told.game("game 1 2 2 2;weight 0 0 9;win 0 0 0 0;win 0 0 1 1;win 0 1 0 1;box 0 0 0 0 12;box 0 0 1 1 1;"
                + "box 0 0 0 1 12;box 0 1 0 1 5;box 0 1 1 0 7");
        Due.is("boxed(0)", g.boxed(0), 9 * 13 + 5);
        Sentences.says("II", "WHOLE: at each x, y all a, b together are 12");
        Due.is("boxed(1), 25 and 12", g.boxed(1), 0);
        g.box(0, 0, 0, 1, 0);
        Due.is("boxed(1), 13 and 12", g.boxed(1), 0);
        g.box(0, 0, 1, 1, 0);
        Due.is("boxed(1), 12 and 12", g.boxed(1), 1);
        g.box(0, 1, 1, 0, 6);
        Due.is("boxed(1), 12 and 11", g.boxed(1), 0);
        Sentences.says("II", "It SIGNALS, if how often some ANSWER of a player is given to a QUESTION (over all ANSWERS of "
                + "the other one) depends on the other one's QUESTION");
        Due.is("boxed(2), Ann's 0 12 and 5", g.boxed(2), 1);
        g = Told.game("game 2 2 2 2;box 0 0 0 0 6;box 0 0 1 1 6;box 0 1 0 0 6;box 0 1 1 1 6;box 1 0 0 0 6;box 1 0 1 1 6;"
                + "box 1 1 0 1 6;box 1 1 1 0 6");
        Due.is("boxed(2), all six and six", g.boxed(2), 0);
        // One twelfth less at one place: Ann's and Ben's answers there are rarer than at the other's other question.
        g.box(1, 1, 1, 0, 5);
        Due.is("boxed(2), one less", g.boxed(2), 1);
        g.box(1, 1, 1, 1, 1);
        // Ann gives 1 as often as before; Ben gives 1 to his question 1 more often than to 0, 1.
        Due.is("boxed(2), Ben's alone", g.boxed(2), 1);
        g.swap();
        Due.is("boxed(2), Ann's alone", g.boxed(2), 1);
    }

    private static final String[] ACTS = {"weigh", "decide", "parity", "exchange", "swap", "drop", "copy", "box", "mix",
        "draw"};

    private static int act(ApartGames g, int kind) {
        switch (kind) {
            case 0: return g.weigh(1, 0, 5);
            case 1: return g.decide(1, 1, 1, 1);
            case 2: return g.parity(0, 1, 1);
            case 3: return g.exchange(1, 0, 0, 1);
            case 4: return g.swap();
            case 5: return g.drop(0, 0);
            case 6: return g.copy(1, 0);
            case 7: return g.box(0, 0, 1, 1, 3);
            case 8: return g.mix(0, 0, 2);
            default: return g.draw(77);
        }
    }

    private static ApartGames some() {
        return Told.game("game 2 2 2 3;weight 0 1 4;even 0 0;box 0 1 0 1 7");
    }

    private static void acts() {
        Sentences.says("II", "ACTS: all from weigh() to draw()");
        for (int kind = 0; kind < ACTS.length; kind++) {
            ApartGames g = some();
            String old = Told.letters(g);
            Due.holds(ACTS[kind] + "() acts", act(g, kind) >= 0);
            Due.is("count(5) behind " + ACTS[kind] + "()", g.count(5), 1);
            Due.holds("it changed the game: " + ACTS[kind], !Told.letters(g).equals(old));
            Due.is("undo() of " + ACTS[kind] + "()", g.undo(), 0);
            Due.is("text undone", Told.letters(g), old);
            Due.is("answers of Ben undone", g.count(3), 3);
        }
        ApartGames g = some();
        g.keep(0);
        g.feed(0, 0, 0, 0, 0);
        g.end(3);
        g.tell();
        for (ToIntFunction<ApartGames> look : LOOKS) {
            look.applyAsInt(g);
        }
        Due.is("what looks, feeds or keeps is no act", g.count(5), 0);
    }

    private static final List<ToIntFunction<ApartGames>> LOOKS = List.of(g -> g.worth(0), g -> g.without(0, 0),
            g -> g.cut(0, 0), g -> g.climb(0, 0, 3), g -> g.twice(0), g -> g.talk(0), g -> g.symmetries(),
            g -> g.boxed(3), g -> g.letter(5), g -> g.best(0, 0));

    private static void lastTen() {
        Sentences.says("II", "The last 10 can be UNDONE, the last first");
        for (int acts = 8; acts <= 22; acts++) {
            ApartGames g = Told.game("game 1 1 2 2");
            for (int i = 1; i <= acts; i++) {
                g.weigh(0, 0, i % 10);
            }
            // The first act, weigh(0, 0, 1), is so already and does not count.
            int can = Math.min(10, acts - 1);
            Due.is("count(5) of " + acts, g.count(5), can);
            for (int i = 1; i <= can; i++) {
                Due.is("undo() " + i + " of " + acts, g.undo(), can - i);
                Due.is("weight undone", g.weight(0, 0), acts == i ? 1 : (acts - i) % 10);
            }
            Due.is("undo() of no more", g.undo(), NONE);
            Due.is("weight stays", g.weight(0, 0), (acts - can) % 10);
        }
    }

    // Undone and done again by turns, so that the ten places come round many times.
    private static void ringOfTen() {
        ApartGames g = Told.game("game 1 1 2 2;weight 0 0 0");
        StringBuilder past = new StringBuilder();
        int weight = 0;
        for (int turn = 0; turn < 60; turn++) {
            for (int i = 0; i < 1 + turn % 4; i++) {
                past.append(weight);
                weight = (weight + 1 + turn % 3) % 10;
                g.weigh(0, 0, weight);
            }
            past.delete(0, Math.max(0, past.length() - 10));
            for (int i = 0; i < turn % 3 && past.length() > 0; i++) {
                weight = past.charAt(past.length() - 1) - '0';
                past.setLength(past.length() - 1);
                Due.is("undo() in turn " + turn, g.undo(), past.length());
                Due.is("weight in turn " + turn, g.weight(0, 0), weight);
            }
        }
        while (past.length() > 0) {
            weight = past.charAt(past.length() - 1) - '0';
            past.setLength(past.length() - 1);
            Due.is("undo() at last", g.undo(), past.length());
            Due.is("weight at last", g.weight(0, 0), weight);
        }
        Due.is("undo() of no more", g.undo(), NONE);
    }

    private static void shelves() {
        Sentences.says("II", "SHELVES 0, 1: all but TAPE, ACTS, SHELVES");
        ApartGames g = some();
        g.weigh(1, 1, 8);
        Told.lay(g, "abcde");
        g.keep(0);
        g.end(2);
        g.swap();
        g.keep(1);
        g.weigh(0, 0, 7);
        Due.is("back(0)", g.back(0), 2);
        Due.is("the text kept", Told.letters(g),
                "game 2 2 2 3;weight 0 1 4;weight 1 1 8;win 0 0 0 0;win 0 0 0 2;win 0 0 1 1;box 0 1 0 1 7");
        Due.is("the tape is not kept", g.count(6), 2);
        Due.is("the acts are not kept", g.count(5), 0);
        Due.is("the shelves are not kept", g.count(7), 3);
        Due.is("back(1)", g.back(1), 2);
        Due.is("answers of Ann, exchanged", g.count(2), 3);
        Due.is("weight of the other shelf", g.weight(1, 1), 8);
        Due.is("weight behind it is not kept", g.weight(0, 0), 1);
    }

    private static void noneAhead() {
        Sentences.says("II", "(Refused: NONE ahead of -2.)");
        ApartGames g = Told.game("game 1 1 2 2;box 0 0 0 0 12");
        Due.is("drop(0, 1), the only one being 0", g.drop(0, 1), NONE);
        Due.is("drop(1, -1), the only one being 0", g.drop(1, -1), NONE);
        Due.is("drop(2, 0), the only ones being 0", g.drop(2, 0), NONE);
        Due.is("mix(0, 0, 13) at a box of 12", g.mix(0, 0, 13), NONE);
        Due.is("mix(2, 0, 1) at a box of 12", g.mix(2, 0, 1), NONE);
        Due.is("mix(0, 2, 1) at a box of 12", g.mix(0, 2, 1), NONE);
        Due.is("best(100, 2)", g.best(100, 2), NONE);
        Due.is("best(MAX, -1)", g.best(Integer.MAX_VALUE, -1), NONE);
        Due.is("back(2), nothing being kept", g.back(2), NONE);
        Due.is("back(-1), nothing being kept", g.back(-1), NONE);
        g = Told.game("game 5 5 4 4");
        Due.is("copy(0, 5) of 5", g.copy(0, 5), NONE);
        Due.is("copy(1, -1) of 5", g.copy(1, -1), NONE);
        Due.is("copy(2, 0) of 5", g.copy(2, 0), NONE);
        Due.is("twice(2) of too many", g.twice(2), NONE);
        Due.is("twice(-1) of too many", g.twice(-1), NONE);
        Due.is("bias(3) of no parity game", g.bias(3), NONE);
        Due.is("letter(-2)", g.letter(-2), NONE);
        Due.is("acts", g.count(5), 0);
    }

    private static void places() {
        Sentences.says("II", "The k-th: from 0 on");
        ApartGames g = Told.game("game 1 1 3 2;win 0 0 1 1;win 0 0 2 0");
        Due.is("best(0, 0)", g.best(0, 0), 1);
        Due.is("best(1, 0)", g.best(1, 0), 2);
        Due.is("best(2, 0)", g.best(2, 0), -2);
        Due.is("letter(0)", g.letter(0), 'g');
        Due.is("letter(1)", g.letter(1), 'a');
    }

    private static void constants() {
        Sentences.says("II", "The constants: `NONE = -1`: None");
        Due.is("NONE", NONE, -1);
    }
}
