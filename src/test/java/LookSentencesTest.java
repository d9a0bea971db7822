/** Sentence by sentence: promises 30 to 44, all that looks at a game without changing it. */
public final class LookSentencesTest {
    private static final int NONE = ApartGames.NONE;
    private static final int MIN = Sentences.MIN;
    private static final int MAX = Sentences.MAX;
    private static final int[] NO_ROWS = {-1, 2, 9, 12, 20, 99, 100, 101, 1000, 100000, -10, -11, MIN, MAX};

    private LookSentencesTest() {
    }

    public static void main(String[] args) throws java.io.IOException {
        Sentences.open(args, "30", "31", "32", "33", "34", "35", "36", "37", "38", "39", "40", "41", "42", "43", "44");
        without();
        lesser();
        same();
        climb();
        climbWithout();
        cut();
        parts();
        partsWinning();
        sign();
        bias();
        biasOfNone();
        twice();
        twiceTooMany();
        product();
        productRefused();
        boxed();
        boxedWorth();
        marginal();
        symmetries();
        letter();
        letterRefused();
        count();
        Sentences.end("LookSentencesTest");
    }

    private static void without() {
        Sentences.says(30, "The most that two ROWS would be WORTH if a QUESTION of a player was never asked");
        ApartGames g = Told.game(Sentences.CHSH);
        g.weigh(1, 1, 5);
        Due.is("without(0, 0)", g.without(0, 0), 6);
        Due.is("without(0, 1)", g.without(0, 1), 2);
        Due.is("without(1, 0)", g.without(1, 0), 6);
        Due.is("without(1, 1)", g.without(1, 1), 2);
        Due.is("the game is as it was", g.worth(1), 8);
        g = Told.game("game 1 1 2 2;even 0 0;weight 0 0 9");
        Due.is("without(0, 0), Ann's only one", g.without(0, 0), 0);
        Due.is("without(1, 0), Ben's only one", g.without(1, 0), 0);
        g = Told.game("game 5 1 2 2;even 4 0;weight 4 0 9;even 0 0");
        Due.is("without(0, 4), her last one", g.without(0, 4), 1);
        Due.is("without(0, 3)", g.without(0, 3), 10);
        Due.is("without(1, 0), asked by all of Ann's", g.without(1, 0), 0);
        g.swap();
        Due.is("without(1, 4), his last one", g.without(1, 4), 1);
        Due.is("without(0, 0), asked by all of Ben's", g.without(0, 0), 0);
        Sentences.says(30, "NONE without these");
        for (int bad : Sentences.not(2)) {
            Sentences.refused("without(" + bad + ", 0)", h -> h.without(bad, 0), NONE);
            Sentences.refused("without(0, " + bad + ")", h -> h.without(0, bad), NONE);
            Sentences.refused("without(1, " + bad + ")", h -> h.without(1, bad), NONE);
        }
        Sentences.refused("without(1, 1)", h -> h.without(1, 1), 1);
        Sentences.refusedBare("without(0, 0)", h -> h.without(0, 0));
        Sentences.refusedBare("without(1, 0)", h -> h.without(1, 0));
    }

    private static void lesser() {
        Sentences.says(31, "Whether of two ANSWERS (unlike) of a player to a QUESTION the one WINS at no x, y of a WEIGHT "
                + "above 0, against no ANSWER, at which the other one does not (1, 0)");
        ApartGames g = Told.game("game 1 2 2 3;win 0 0 0 0;win 0 0 0 2;win 0 0 1 2;win 0 1 1 1;weight 0 1 0");
        Due.is("lesser(0, 0, 1, 0)", g.lesser(0, 0, 1, 0), 1);
        Due.is("lesser(0, 0, 0, 1)", g.lesser(0, 0, 0, 1), 0);
        Due.is("lesser(1, 0, 1, 0)", g.lesser(1, 0, 1, 0), 1);
        Due.is("lesser(1, 0, 0, 1)", g.lesser(1, 0, 0, 1), 0);
        Due.is("lesser(1, 0, 0, 2)", g.lesser(1, 0, 0, 2), 1);
        Due.is("lesser(1, 0, 2, 0)", g.lesser(1, 0, 2, 0), 0);
        Due.is("lesser(1, 1, 1, 0) of weight 0", g.lesser(1, 1, 1, 0), 1);
        g.weigh(0, 1, 1);
        Due.is("lesser(1, 1, 1, 0) of weight 1", g.lesser(1, 1, 1, 0), 0);
        Due.is("lesser(0, 0, 1, 0) of weight 1", g.lesser(0, 0, 1, 0), 0);
        g = Told.game("game 1 5 2 4;even 0 0;odd 0 0;win 0 4 0 3");
        Due.is("lesser(0, 0, 1, 0), both alike but at the last", g.lesser(0, 0, 1, 0), 1);
        Due.is("lesser(0, 0, 0, 1), both alike but at the last", g.lesser(0, 0, 0, 1), 0);
        Due.is("lesser(1, 0, 3, 0), both alike", g.lesser(1, 0, 3, 0), 1);
        // By the other one's last question and last answer alone, whoever has more of them.
        g = Told.game("game 5 1 4 2;win 4 0 3 0");
        Due.is("lesser(1, 0, 0, 1)", g.lesser(1, 0, 0, 1), 0);
        Due.is("lesser(1, 0, 1, 0)", g.lesser(1, 0, 1, 0), 1);
        Due.is("lesser(0, 4, 3, 2)", g.lesser(0, 4, 3, 2), 0);
        Due.is("lesser(0, 4, 2, 3)", g.lesser(0, 4, 2, 3), 1);
        g.swap();
        Due.is("lesser(0, 0, 0, 1)", g.lesser(0, 0, 0, 1), 0);
        Due.is("lesser(1, 4, 3, 2)", g.lesser(1, 4, 3, 2), 0);
        Sentences.says(31, "NONE without these");
        for (int bad : Sentences.not(2)) {
            Sentences.refused("lesser(" + bad + ", 0, 0, 1)", h -> h.lesser(bad, 0, 0, 1), NONE);
            Sentences.refused("lesser(0, " + bad + ", 0, 1)", h -> h.lesser(0, bad, 0, 1), NONE);
            Sentences.refused("lesser(1, " + bad + ", 0, 1)", h -> h.lesser(1, bad, 0, 1), NONE);
            Sentences.refused("lesser(0, 0, " + bad + ", 1)", h -> h.lesser(0, 0, bad, 1), NONE);
            Sentences.refused("lesser(0, 0, 1, " + bad + ")", h -> h.lesser(0, 0, 1, bad), NONE);
        }
        for (int bad : Sentences.not(3)) {
            Sentences.refused("lesser(1, 0, " + bad + ", 1)", h -> h.lesser(1, 0, bad, 1), NONE);
            Sentences.refused("lesser(1, 0, 1, " + bad + ")", h -> h.lesser(1, 0, 1, bad), NONE);
        }
        Sentences.refused("lesser(0, 0, 0, 0), not unlike", h -> h.lesser(0, 0, 0, 0), NONE);
        Sentences.refused("lesser(1, 1, 2, 2), not unlike", h -> h.lesser(1, 1, 2, 2), NONE);
        Sentences.refusedBare("lesser(0, 0, 0, 1)", h -> h.lesser(0, 0, 0, 1));
    }

    private static void same() {
        Sentences.says(32, "Whether two QUESTIONS (unlike) of a player have WEIGHTS, WINS and BOX alike throughout (1, 0)");
        String two = "game 2 2 2 3;weight 0 0 2;weight 0 1 4;win 0 1 1 2;win 0 0 0 1;box 0 1 1 2 8;box 0 0 1 0 3";
        for (int player = 0; player < 2; player++) {
            for (int changed = 0; changed < 5; changed++) {
                ApartGames g = Told.game(two);
                g.copy(0, 0);
                spoil(g, changed);
                if (player == 1) {
                    g.swap();
                }
                Due.is("same(" + player + ", 0, 2), " + changed, g.same(player, 0, 2), changed == 0 ? 1 : 0);
                Due.is("same(" + player + ", 2, 0), " + changed, g.same(player, 2, 0), changed == 0 ? 1 : 0);
                Due.is("same(" + player + ", 1, 2), " + changed, g.same(player, 1, 2), 0);
            }
        }
        Due.is("same(0, 0, 4) where all are", Told.game("game 5 5 2 2").same(0, 0, 4), 1);
        Due.is("same(0, 0, 1), wins of weight 0", Told.game("game 2 1 2 2;weight 0 0 0;weight 1 0 0;even 0 0")
                .same(0, 0, 1), 0);
        Due.is("same(0, 0, 1), the first win alone", Told.game("game 2 1 2 2;win 0 0 0 0").same(0, 0, 1), 0);
        Due.is("same(1, 0, 1), the first win alone", Told.game("game 1 2 2 2;win 0 1 0 0").same(1, 0, 1), 0);
        Due.is("same(0, 0, 1), the first box alone", Told.game("game 2 1 2 2;box 0 0 0 0 1").same(0, 0, 1), 0);
        // By the other one's last question and last answer alone, whoever has more of them.
        for (String last : new String[] {"weight 4 1 2", "win 4 1 3 1", "box 4 1 3 1 1"}) {
            ApartGames g = Told.game("game 5 2 4 2;" + last);
            Due.is("same(1, 0, 1) by " + last, g.same(1, 0, 1), 0);
            Due.is("same(0, 0, 4) by " + last, g.same(0, 0, 4), 0);
            Due.is("same(0, 0, 3) by " + last, g.same(0, 0, 3), 1);
            g.swap();
            Due.is("same(0, 0, 1) by " + last, g.same(0, 0, 1), 0);
            Due.is("same(1, 0, 4) by " + last, g.same(1, 0, 4), 0);
        }
        Sentences.says(32, "NONE without these");
        for (int bad : Sentences.not(2)) {
            Sentences.refused("same(" + bad + ", 0, 1)", h -> h.same(bad, 0, 1), NONE);
            for (int who = 0; who < 2; who++) {
                int player = who;
                Sentences.refused("same(" + who + ", " + bad + ", 1)", h -> h.same(player, bad, 1), NONE);
                Sentences.refused("same(" + who + ", 1, " + bad + ")", h -> h.same(player, 1, bad), NONE);
            }
        }
        Sentences.refused("same(0, 0, 0), not unlike", h -> h.same(0, 0, 0), NONE);
        Sentences.refused("same(1, 1, 1), not unlike", h -> h.same(1, 1, 1), NONE);
        Sentences.refusedBare("same(0, 0, 1)", h -> h.same(0, 0, 1));
    }

    private static void spoil(ApartGames g, int changed) {
        switch (changed) {
            case 1: g.weigh(2, 1, 5); break;
            case 2: g.decide(2, 1, 1, 2); break;
            case 3: g.box(2, 1, 1, 2, 9); break;
            case 4: g.decide(2, 0, 1, 1); break;
            default: break;
        }
    }

    private static void climbs(String text, int ann, int ben, int... due) {
        ApartGames g = Told.game(text);
        for (int what = 0; what < 4; what++) {
            Due.is("climb(" + ann + ", " + ben + ", " + what + ") of " + text, g.climb(ann, ben, what), due[what]);
        }
    }

    private static void climb() {
        Sentences.says(33, "From two ROWS on, by turns BEN, then ANN and so on takes the reply() to the other one's ROW, "
                + "if it is WORTH more than his own one, till neither does: what 0: what they are WORTH then, "
                + "1: ANN's ROW, 2: BEN's, 3: how often one took one");
        String stairs = "game 1 3 2 2;win 0 0 0 1;win 0 0 1 1;win 0 1 1 0;win 0 2 1 1";
        climbs(stairs, 0, 0, 3, 1, 101, 3);
        climbs(stairs, 1, 101, 3, 1, 101, 0);
        // Ben has as much already, though not by his least row: Ann is the first to take.
        climbs(stairs, 0, 111, 3, 1, 101, 2);
        climbs("game 1 1 2 2;win 0 0 1 0;win 0 0 1 1", 0, 1, 1, 1, 1, 1);
        // Neither alone can do better, though both could.
        climbs("game 1 1 2 2;win 0 0 1 1", 0, 0, 0, 0, 0, 0);
        climbs("game 5 5 4 4", 33333, 12312, 0, 33333, 12312, 0);
        // Ben's least reply is worth as much, so he stays by the row he has.
        climbs("game 1 1 2 2;even 0 0;odd 0 0", 1, 1, 1, 1, 1, 0);
    }

    private static void climbWithout() {
        Sentences.says(33, "NONE without these");
        for (int bad : NO_ROWS) {
            Sentences.refused("climb(" + bad + ", 0, 0)", h -> h.climb(bad, 0, 0), NONE);
            Due.is("climb(0, " + bad + ", 3)", Told.game("game 2 2 3 2").climb(0, bad, 3), NONE);
        }
        for (int bad : Sentences.not(4)) {
            Sentences.refused("climb(0, 0, " + bad + ")", h -> h.climb(0, 0, bad), NONE);
        }
        Sentences.refusedBare("climb(0, 0, 0)", h -> h.climb(0, 0, 0));
        Sentences.refusedBare("climb(0, 0, 3)", h -> h.climb(0, 0, 3));
    }

    private static void cut() {
        Sentences.says(34, "The most that two ROWS would be WORTH if x, y was never asked");
        ApartGames g = Told.game(Sentences.CHSH);
        g.weigh(1, 1, 5);
        Due.is("cut(1, 1)", g.cut(1, 1), 3);
        Due.is("cut(0, 0)", g.cut(0, 0), 7);
        Due.is("cut(0, 1)", g.cut(0, 1), 7);
        Due.is("cut(1, 0)", g.cut(1, 0), 7);
        Due.is("the game is as it was", g.worth(1), 8);
        Due.is("cut() of the only one", Told.game("game 1 1 2 2;even 0 0").cut(0, 0), 0);
        Due.is("cut(4, 4)", Told.game("game 5 5 2 2;even 4 4;even 3 4").cut(4, 4), 1);
        g = Told.game("game 3 2 2 2;even 2 1;even 1 0;weight 2 1 5;weight 1 0 3;odd 0 1");
        Due.is("cut(2, 1)", g.cut(2, 1), 4);
        Due.is("cut(1, 0)", g.cut(1, 0), 6);
        Due.is("cut(0, 1)", g.cut(0, 1), 8);
        g.swap();
        Due.is("cut(1, 2), players exchanged", g.cut(1, 2), 4);
        Due.is("cut(1, 0), players exchanged", g.cut(1, 0), 8);
        Sentences.says(34, "NONE without these");
        for (int bad : Sentences.not(2)) {
            Sentences.refused("cut(" + bad + ", 0)", h -> h.cut(bad, 0), NONE);
            Sentences.refused("cut(0, " + bad + ")", h -> h.cut(0, bad), NONE);
        }
        Sentences.refused("cut(1, 0)", h -> h.cut(1, 0), 2);
        Sentences.refusedBare("cut(0, 0)", h -> h.cut(0, 0));
    }

    private static void parts(String text, int parts, int greatest) {
        ApartGames g = Told.game(text);
        Due.is("parts(0) of " + text, g.parts(0), parts);
        Due.is("parts(1) of " + text, g.parts(1), greatest);
    }

    private static void parts() {
        Sentences.says(35, "QUESTIONS of both hang together by x, y of a WEIGHT above 0: what 0: in how many PARTS they "
                + "are, 1: how many QUESTIONS the greatest one has");
        parts("game 1 1 2 2", 1, 2);
        parts("game 1 1 2 2;weight 0 0 0", 2, 1);
        parts("game 5 5 2 2", 1, 10);
        parts("game 1 5 2 2", 1, 6);
        parts("game 2 2 2 2;weight 0 1 0;weight 1 0 0", 2, 2);
        parts("game 2 2 2 2;weight 0 0 0;weight 1 1 0", 2, 2);
        parts("game 2 2 2 2;weight 0 0 0", 1, 4);
        parts("game 3 1 2 2;weight 1 0 0", 2, 3);
        // A chain that is found from its end alone: 2-0, 2-1, 1-1, 1-2, 0-2.
        parts("game 3 3 2 2;weight 0 0 0;weight 0 1 0;weight 1 0 0;weight 2 2 0", 1, 6);
        ApartGames g = Told.game("game 5 5 2 2");
        for (int i = 0; i < 25; i++) {
            g.weigh(i / 5, i % 5, 0);
        }
        Due.is("parts(0), none together", g.parts(0), 10);
        Due.is("parts(1), none together", g.parts(1), 1);
        g.weigh(4, 4, 9);
        Due.is("parts(0), the last two together", g.parts(0), 9);
        Due.is("parts(1), the last two together", g.parts(1), 2);
    }

    private static void partsWinning() {
        Sentences.says(35, "2: whether two ROWS WIN throughout, WEIGHT by WEIGHT (1, 0)");
        Due.is("parts(2)", Told.game(Sentences.CHSH).parts(2), 0);
        Due.is("parts(2) but for weight 0", Told.game(Sentences.CHSH + ";weight 1 1 0").parts(2), 1);
        Due.is("parts(2), nothing wins", Told.game("game 1 1 2 2").parts(2), 0);
        Due.is("parts(2), nothing weighs", Told.game("game 1 1 2 2;weight 0 0 0").parts(2), 1);
        Due.is("parts(2), one wins", Told.game("game 1 1 4 4;win 0 0 3 3").parts(2), 1);
        Sentences.says(35, "NONE for others, without a GAME");
        for (int bad : Sentences.not(3)) {
            Sentences.refused("parts(" + bad + ")", h -> h.parts(bad), NONE);
        }
        for (int what = 0; what < 3; what++) {
            int asked = what;
            Sentences.refusedBare("parts(" + what + ")", h -> h.parts(asked));
        }
    }

    private static void sign() {
        Sentences.says(36, "SIGN of x, y: 1, -1");
        ApartGames g = Told.game("game 5 5 3 4;even 4 0;odd 0 4;weight 0 4 0;even 4 4;win 4 4 2 3;odd 3 3;odd 2 2;even 2 2");
        Due.is("sign(4, 0)", g.sign(4, 0), 1);
        Due.is("sign(0, 4) of weight 0", g.sign(0, 4), -1);
        Due.is("sign(3, 3)", g.sign(3, 3), -1);
        Sentences.says(36, "0: it has none");
        Due.is("sign(4, 4), one more", g.sign(4, 4), 0);
        Due.is("sign(2, 2), all", g.sign(2, 2), 0);
        Due.is("sign(1, 1), nothing", g.sign(1, 1), 0);
        g.decide(3, 3, 0, 1);
        Due.is("sign(3, 3), one fewer", g.sign(3, 3), 0);
        Sentences.says(36, "-2 without these");
        for (int bad : Sentences.not(2)) {
            Sentences.refused("sign(" + bad + ", 0)", h -> h.sign(bad, 0), -2);
            Sentences.refused("sign(0, " + bad + ")", h -> h.sign(0, bad), -2);
        }
        Sentences.refusedOf(Sentences::bare, "sign(0, 0) without a game", h -> h.sign(0, 0), -2);
    }

    private static void biases(String text, int... due) {
        ApartGames g = Told.game(text);
        for (int what = 0; what < 3; what++) {
            Due.is("bias(" + what + ") of " + text, g.bias(what), due[what]);
        }
    }

    private static void bias() {
        Sentences.says(37, "Of a PARITY GAME what 0: the most that WON less LOST can be, 1: its SQUARES, "
                + "2: of these CROSSED ones");
        biases(Sentences.CHSH, 2, 1, 1);
        biases(Sentences.CHSH + ";weight 1 1 9", 10, 1, 1);
        biases(Sentences.CHSH + ";weight 0 0 0", 3, 0, 0);
        biases(Sentences.CHSH + ";weight 1 1 0", 3, 0, 0);
        biases("game 2 2 2 2;even 0 0;even 0 1;even 1 0;even 1 1", 4, 1, 0);
        biases("game 2 2 2 2;odd 0 0;odd 0 1;odd 1 0;odd 1 1", 4, 1, 0);
        biases("game 2 2 2 2;odd 0 0;odd 0 1;odd 1 0;even 1 1", 2, 1, 1);
        biases("game 1 1 2 2;odd 0 0;weight 0 0 9", 9, 0, 0);
        // Nothing weighs: a parity game of no signs.
        biases("game 1 1 2 2;weight 0 0 0", 0, 0, 0);
        biases("game 1 5 2 2;even 0 0;odd 0 1;even 0 2;odd 0 3;even 0 4", 5, 0, 0);
        biases("game 3 2 2 2;even 0 0;even 0 1;even 1 0;odd 1 1;even 2 0;odd 2 1", 4, 3, 2);
        ApartGames g = Told.game("game 5 5 2 2");
        for (int i = 0; i < 25; i++) {
            g.parity(i / 5, i % 5, i == 24 ? 1 : 0);
            g.weigh(i / 5, i % 5, 9);
        }
        Due.is("bias(0) of all", g.bias(0), 23 * 9);
        Due.is("bias(1) of all", g.bias(1), 100);
        Due.is("bias(2) of all", g.bias(2), 16);
    }

    private static void biasOfNone() {
        Sentences.says(37, "-2000: it is none");
        for (int what = 0; what < 3; what++) {
            Due.is("bias(" + what + "), one has no sign", Told.game(Sentences.CHSH + ";odd 0 0").bias(what), -2000);
            Due.is("bias(" + what + "), Ann has 3 answers", Told.game("game 1 1 3 2;odd 0 0").bias(what), -2000);
            Due.is("bias(" + what + "), Ben has 3 answers", Told.game("game 1 1 2 3;odd 0 0").bias(what), -2000);
            Due.is("bias(" + what + "), 3 answers of weight 0", Told.game("game 1 1 2 3;weight 0 0 0").bias(what), -2000);
            Due.is("bias(" + what + "), the last has no sign", Told.game("game 1 2 2 2;even 0 0").bias(what), -2000);
        }
        Sentences.says(37, "NONE for others, without a GAME");
        for (int bad : Sentences.not(3)) {
            Sentences.refused("bias(" + bad + ")", h -> h.bias(bad), NONE);
            Due.is("bias(" + bad + ") of a parity game", Told.game(Sentences.CHSH).bias(bad), NONE);
        }
        for (int what = 0; what < 3; what++) {
            int asked = what;
            Sentences.refusedBare("bias(" + what + ")", h -> h.bias(asked));
        }
    }

    private static void twice() {
        Sentences.says(38, "The GAME TWICE at once, what 0: the most that WON both times can be, 1: once at least");
        ApartGames g = Told.game(Sentences.CHSH);
        Due.is("twice(0)", g.twice(0), 10);
        g = Told.game("game 1 2 2 2;weight 0 0 2;weight 0 1 3;win 0 0 0 0;win 0 1 1 0");
        Due.is("twice(0) by hand", g.twice(0), 9);
        Due.is("twice(1) by hand", g.twice(1), 21);
        g = Told.game("game 1 1 2 2;weight 0 0 9;win 0 0 1 1");
        Due.is("twice(0) of what can be won", g.twice(0), 81);
        Due.is("twice(1) of what can be won", g.twice(1), 81);
        twiceOver();
        g = Told.game("game 2 2 4 4");
        Due.is("twice(0), nothing wins", g.twice(0), 0);
        Due.is("twice(1), nothing wins", g.twice(1), 0);
        Due.is("twice(1) of weight 0", Told.game("game 1 1 2 2;weight 0 0 0;even 0 0").twice(1), 0);
        Sentences.says(38, "NONE for others, without a GAME");
        for (int bad : Sentences.not(2)) {
            Sentences.refused("twice(" + bad + ")", h -> h.twice(bad), NONE);
            Due.is("twice(" + bad + ") of too many", Told.game("game 5 5 4 4").twice(bad), NONE);
        }
        Sentences.refusedBare("twice(0)", h -> h.twice(0));
        Sentences.refusedBare("twice(1)", h -> h.twice(1));
    }

    // More than rows of each bring that are played in both: the answers are by both questions.
    private static void twiceOver() {
        ApartGames g = Told.game("game 2 2 4 4;win 0 0 0 0;win 0 1 0 0;win 1 0 1 1;win 1 1 1 1;win 0 0 2 2;win 0 1 3 3;"
                + "win 1 0 2 2;win 1 1 3 3");
        Due.is("twice(0) of Feige's game", g.twice(0), 8);
        Due.is("twice(1) of Feige's game", g.twice(1), 16);
        // Where one has more questions or answers than the other: drawn games in which rows of each are not the best.
        drawnTwice("game 2 2 3 2", 33);
        drawnTwice("game 2 2 3 2", 5);
        drawnTwice("game 2 2 2 3", 38);
        drawnTwice("game 2 2 2 4", 57);
        drawnTwice("game 2 3 3 2", 7);
        drawnTwice("game 2 3 3 2", 14);
        drawnTwice("game 2 3 2 4", 14);
        drawnTwice("game 1 5 4 2", 3);
        drawnTwice("game 2 1 2 4", 3);
        drawnTwice("game 2 2 4 2", 57);
    }

    private static void drawnTwice(String text, int seed) {
        ApartGames g = Told.game(text);
        Naive naive = naive(text);
        g.draw(seed);
        naive.draw(seed);
        Due.is("twice(0) of " + text + " by " + seed, g.twice(0), naive.twice(0));
        Due.is("twice(1) of " + text + " by " + seed, g.twice(1), naive.twice(1));
    }

    private static Naive naive(String text) {
        Naive naive = new Naive();
        naive.feed(Told.four(text, 0), Told.four(text, 4), Told.four(text, 8), 0, 0);
        naive.end(text.length());
        naive.tell();
        return naive;
    }

    private static void twiceTooMany() {
        Sentences.says(38, "-2: ANN would have more than 70000 ROWS");
        for (int nx = 1; nx <= 5; nx++) {
            for (int na = 2; na <= 4; na++) {
                // 16 to the 4th are 65536; 4 to the 9th are 262144. Ben's answers do not matter.
                int due = nx <= 2 ? 0 : -2;
                for (int i = 0; i < 6; i++) {
                    Due.is("twice(" + i % 2 + ") of " + nx + " by " + na,
                            Told.game("game " + nx + " 1 " + na + " " + (2 + i / 2)).twice(i % 2), due);
                }
            }
        }
        // Ben may have as many as he likes.
        Due.is("twice(0), Ben has the most there can be", Told.game("game 2 5 4 4;alike 1 4").twice(0), 1);
        Due.is("twice(1), Ben has the most there can be", Told.game("game 2 5 4 4;alike 1 4").twice(1), 19);
    }

    private static void product() {
        Sentences.says(39, "Of a PARITY GAME WITH ITSELF: the most that all that counts can be together");
        Due.is("product()", Told.game(Sentences.CHSH).product(), 8);
        Due.is("product() of one", Told.game("game 1 1 2 2;odd 0 0;weight 0 0 9").product(), 81);
        Due.is("product() of weight 0", Told.game("game 1 1 2 2;weight 0 0 0").product(), 0);
        Due.is("product() without signs where nothing weighs", Told.game("game 2 1 2 2;even 0 0;weight 1 0 0")
                .product(), 1);
        ApartGames g = Told.game("game 4 5 2 2");
        for (int i = 0; i < 20; i++) {
            g.parity(i / 5, i % 5, i / 5 % 2);
            g.weigh(i / 5, i % 5, 9);
        }
        Due.is("product() of the greatest", g.product(), 180 * 180);
        // CHSH, each question of Ann's twice.
        g = Told.game(Sentences.CHSH);
        g.copy(0, 0);
        g.copy(0, 1);
        Due.is("bias(0) of each twice", g.bias(0), 4);
        Due.is("product() of each twice", g.product(), 32);
        g.drop(1, 1);
        Due.is("product(), not crossed", g.product(), 16);
        g = Told.game(Sentences.CHSH);
        g.copy(1, 0);
        g.copy(1, 1);
        Due.is("product() of each of Ben's twice", g.product(), 32);
        g.copy(1, 0);
        Due.is("product() of one of Ben's three times", g.product(), 50);
        for (int i = 0; i < 24; i++) {
            String text = "game " + (1 + i % 3) + " " + (1 + i / 3 % 4) + " 2 2";
            signed(text, i);
        }
        Sentences.says(39, "NONE without a GAME");
        Sentences.refusedBare("product()", ApartGames::product);
    }

    // A game of signs and weights that the number tells, against Naive.
    private static void signed(String text, int number) {
        ApartGames g = Told.game(text);
        Naive naive = naive(text);
        int state = number * 7 + 3;
        for (int i = 0; i < g.count(0) * g.count(1); i++) {
            int x = i / g.count(1);
            int y = i % g.count(1);
            state = (state * 37 + 11) % 1009;
            g.parity(x, y, state % 2);
            naive.parity(x, y, state % 2);
            g.weigh(x, y, state / 2 % 4);
            naive.weigh(x, y, state / 2 % 4);
        }
        Due.is("product() of signs by " + number, g.product(), naive.product());
    }

    private static void productRefused() {
        Sentences.says(39, "-2000: it is none");
        Due.is("one has no sign", Told.game(Sentences.CHSH + ";odd 0 0").product(), -2000);
        Due.is("the last has no sign", Told.game("game 1 2 2 2;even 0 0").product(), -2000);
        Due.is("Ann has 3 answers", Told.game("game 1 1 3 2;odd 0 0").product(), -2000);
        Due.is("Ben has 3 answers", Told.game("game 1 1 2 3;odd 0 0").product(), -2000);
        Due.is("it stands ahead of -2001", Told.game("game 5 1 2 2").product(), -2000);
        Sentences.says(39, "-2001: ANN has 5 QUESTIONS");
        ApartGames g = Told.game("game 5 1 2 2;even 0 0;even 1 0;even 2 0;even 3 0;odd 4 0");
        Due.is("product() of 5 questions", g.product(), -2001);
        g.drop(0, 4);
        Due.is("product() of 4 questions", g.product(), 16);
        Due.is("product() of 5 of Ben's", Told.game("game 1 5 2 2;even 0 0;even 0 1;even 0 2;even 0 3;odd 0 4")
                .product(), 25);
    }

    private static void boxed() {
        Sentences.says(40, "1: whether it is WHOLE (1, 0)");
        Due.is("boxed(1), nothing in it", Told.game("game 1 1 2 2").boxed(1), 0);
        Due.is("boxed(1) of 11", Told.game("game 1 1 2 2;box 0 0 0 0 11").boxed(1), 0);
        Due.is("boxed(1) of 12", Told.game("game 1 1 2 2;box 0 0 0 0 11;box 0 0 1 1 1").boxed(1), 1);
        Due.is("boxed(1) of 13", Told.game("game 1 1 2 2;box 0 0 0 0 11;box 0 0 1 1 2").boxed(1), 0);
        Due.is("boxed(1), the last one is not", Told.game("game 1 2 2 2;box 0 0 0 0 12").boxed(1), 0);
        Due.is("boxed(1), weight 0 is not", Told.game("game 1 2 2 2;box 0 0 0 0 12;weight 0 1 0").boxed(1), 0);
        Due.is("boxed(1), by answers of Ann's last", Told.game("game 1 1 4 2;box 0 0 3 1 12").boxed(1), 1);
        Due.is("boxed(1), by answers of Ben's last", Told.game("game 1 1 2 4;box 0 0 1 3 12").boxed(1), 1);
        Due.is("boxed(1), 24 here and 0 there", Told.game("game 1 2 2 2;box 0 0 0 0 12;box 0 0 1 1 12").boxed(1), 0);
        Sentences.says(40, "2: whether it SIGNALS");
        Due.is("boxed(2), nothing in it", Told.game("game 5 5 4 4").boxed(2), 0);
        Due.is("boxed(2) of one by one", Told.game("game 1 1 2 2;box 0 0 0 0 5").boxed(2), 0);
        Due.is("boxed(2), Ann's last answer", Told.game("game 1 2 3 2;box 0 0 2 0 5;box 0 1 2 1 4;box 0 1 1 0 1").boxed(2), 1);
        Due.is("boxed(2), Ben's answers differ by his own question alone",
                Told.game("game 1 2 2 2;box 0 0 0 0 12;box 0 1 0 1 12").boxed(2), 0);
        Due.is("boxed(2), Ben's answer by Ann's question",
                Told.game("game 2 1 2 4;box 0 0 0 3 12;box 1 0 0 2 12").boxed(2), 1);
        Due.is("boxed(2) where nothing weighs",
                Told.game("game 2 1 2 2;weight 0 0 0;weight 1 0 0;box 0 0 0 0 1").boxed(2), 1);
        Due.is("boxed(2), the last question alone", Told.game("game 1 5 2 2;box 0 4 1 1 1").boxed(2), 1);
    }

    private static void boxedWorth() {
        Sentences.says(40, "What 0: WORTH of the BOX, in twelfths");
        ApartGames g = Told.game("game 2 2 2 3;even 0 0;weight 0 0 3;box 0 0 0 0 5;box 0 0 1 1 12;box 0 0 0 1 7;"
                + "win 1 1 1 2;box 1 1 1 2 12;weight 0 1 0;win 0 1 0 0;box 0 1 0 0 9");
        Due.is("boxed(0)", g.boxed(0), 3 * 17 + 12);
        Due.is("boxed(0), nothing in it", Told.game("game 1 1 2 2;even 0 0").boxed(0), 0);
        Due.is("boxed(0), nothing wins", Told.game("game 1 1 2 2;box 0 0 0 0 12").boxed(0), 0);
        for (int turn = 0; turn < 2; turn++) {
            ApartGames wide = Told.game("game 5 2 4 2;win 4 1 3 1;weight 4 1 9;box 4 1 3 1 12;win 4 0 3 0;box 4 0 3 0 1");
            Due.is("swap()", turn == 0 ? 1 : wide.swap(), 1);
            Due.is("boxed(0), the last ones", wide.boxed(0), 109);
            Due.is("boxed(1), the last ones", wide.boxed(1), 0);
            Due.is("boxed(2), the last ones", wide.boxed(2), 1);
        }
        ApartGames full = Told.game("game 5 5 4 4;win 4 4 3 3;weight 4 4 9");
        full.mix(33333, 33333, 12);
        Due.is("boxed(0) of the largest game", full.boxed(0), 108);
        Due.is("boxed(1) of the largest game", full.boxed(1), 1);
        Due.is("boxed(2) of the largest game", full.boxed(2), 0);
        Due.is("boxed(3) of the largest game", full.boxed(3), 0);
        Sentences.says(40, "3: whether it is WORTH more than all twos of ROWS");
        Due.is("boxed(3), 63 by 4 times 12", g.boxed(3), 1);
        // Rows win 2 of 3, for Ann has but one answer.
        String won = "game 1 2 2 2;win 0 0 0 0;win 0 1 1 1;weight 0 0 2;box 0 0 0 0 12";
        Due.is("boxed(3), as much", Told.game(won).boxed(3), 0);
        Due.is("boxed(3), a twelfth more", Told.game(won + ";box 0 1 1 1 1").boxed(3), 1);
        Due.is("boxed(3), less", Told.game("game 1 1 2 2;win 0 0 0 0;box 0 0 0 0 11").boxed(3), 0);
        Due.is("boxed(3) of nothing", Told.game("game 1 1 2 2").boxed(3), 0);
        Sentences.says(40, "NONE for others, without a GAME");
        for (int bad : Sentences.not(4)) {
            Sentences.refused("boxed(" + bad + ")", h -> h.boxed(bad), NONE);
        }
        for (int what = 0; what < 4; what++) {
            int asked = what;
            Sentences.refusedBare("boxed(" + what + ")", h -> h.boxed(asked));
        }
    }

    private static void marginal() {
        Sentences.says(41, "By the BOX: how often a player gives an ANSWER to a QUESTION, the other one having another "
                + "QUESTION, in twelfths");
        ApartGames g = Told.game("game 2 3 4 3;box 1 2 3 0 5;box 1 2 3 2 12;box 1 2 0 2 4;box 0 2 3 2 1;box 1 0 3 2 2");
        Due.is("marginal(0, 1, 3, 2)", g.marginal(0, 1, 3, 2), 17);
        Due.is("marginal(1, 2, 2, 1)", g.marginal(1, 2, 2, 1), 16);
        Due.is("marginal(0, 1, 0, 2)", g.marginal(0, 1, 0, 2), 4);
        Due.is("marginal(1, 2, 0, 1)", g.marginal(1, 2, 0, 1), 5);
        Due.is("marginal(0, 0, 3, 2)", g.marginal(0, 0, 3, 2), 1);
        Due.is("marginal(1, 0, 2, 1)", g.marginal(1, 0, 2, 1), 2);
        Due.is("marginal(1, 1, 1, 1), nothing there", g.marginal(1, 1, 1, 1), 0);
        // Both may have questions of one number.
        Due.is("marginal(0, 1, 0, 1)", Sentences.rich().marginal(0, 1, 0, 1), 4);
        Sentences.says(41, "NONE without these");
        for (int bad : Sentences.not(2)) {
            Sentences.refused("marginal(" + bad + ", 0, 0, 0)", h -> h.marginal(bad, 0, 0, 0), NONE);
            Sentences.refused("marginal(0, " + bad + ", 0, 0)", h -> h.marginal(0, bad, 0, 0), NONE);
            Sentences.refused("marginal(1, " + bad + ", 0, 0)", h -> h.marginal(1, bad, 0, 0), NONE);
            Sentences.refused("marginal(0, 0, " + bad + ", 0)", h -> h.marginal(0, 0, bad, 0), NONE);
            Sentences.refused("marginal(0, 0, 0, " + bad + ")", h -> h.marginal(0, 0, 0, bad), NONE);
            Sentences.refused("marginal(1, 0, 0, " + bad + ")", h -> h.marginal(1, 0, 0, bad), NONE);
        }
        for (int bad : Sentences.not(3)) {
            Sentences.refused("marginal(1, 0, " + bad + ", 0)", h -> h.marginal(1, 0, bad, 0), NONE);
        }
        ApartGames wide = Told.game("game 1 2 2 2");
        Due.is("marginal(0, 0, 0, 1), Ben's question", wide.marginal(0, 0, 0, 1), 0);
        Due.is("marginal(1, 1, 0, 1), no question of Ann", wide.marginal(1, 1, 0, 1), NONE);
        Due.is("marginal(0, 1, 0, 0), no question of Ann", wide.marginal(0, 1, 0, 0), NONE);
        Sentences.refusedBare("marginal(0, 0, 0, 0)", h -> h.marginal(0, 0, 0, 0));
        Sentences.refusedBare("marginal(1, 0, 0, 0)", h -> h.marginal(1, 0, 0, 0));
    }

    private static void symmetries() {
        Sentences.says(42, "In how many ways QUESTIONS of ANN, and QUESTIONS of BEN, can be told in another order each "
                + "(or as they are) so that WEIGHTS and WINS are as they were");
        int factor = 1;
        for (int n = 1; n <= 5; n++) {
            factor *= n;
            Due.is("symmetries() of " + n + " by 1", Told.game("game " + n + " 1 2 2").symmetries(), factor);
            Due.is("symmetries() of 1 by " + n, Told.game("game 1 " + n + " 2 2").symmetries(), factor);
            Due.is("symmetries() of " + n + " by " + n, Told.game("game " + n + " " + n + " 4 4").symmetries(),
                    factor * factor);
        }
        Due.is("both together", Told.game("game 3 3 2 2;weight 0 0 2;weight 1 1 2;weight 2 2 2").symmetries(), 6);
        Due.is("by wins", Told.game("game 3 3 2 2;even 0 0;even 1 1;even 2 2").symmetries(), 6);
        Due.is("wins of weight 0", Told.game("game 2 1 2 2;weight 0 0 0;weight 1 0 0;win 1 0 1 1").symmetries(), 1);
        Due.is("weight 0 and 1", Told.game("game 2 1 2 2;weight 0 0 0").symmetries(), 1);
        Due.is("weight 9 and 8", Told.game("game 2 1 2 2;weight 0 0 9;weight 1 0 8").symmetries(), 1);
        Due.is("whatever the box", Told.game("game 2 2 2 2;box 0 0 0 0 12").symmetries(), 4);
        Due.is("the last win of the greatest table", Told.game("game 1 2 4 4;win 0 1 3 3").symmetries(), 1);
        Due.is("the first win of the greatest table", Told.game("game 1 2 4 4;win 0 1 0 0").symmetries(), 1);
        Due.is("the last win of 4 by 2", Told.game("game 1 2 4 2;win 0 1 3 1").symmetries(), 1);
        Due.is("the last win of 2 by 4", Told.game("game 1 2 2 4;win 0 1 1 3").symmetries(), 1);
        Due.is("round in a ring of three", Told.game("game 3 3 2 2;weight 0 1 2;weight 1 2 2;weight 2 0 2;weight 0 2 3;"
                + "weight 1 0 3;weight 2 1 3").symmetries(), 3);
        Due.is("Ann's last two of four alone", Told.game("game 4 1 2 2;weight 0 0 5;weight 1 0 6").symmetries(), 2);
        Due.is("two and two of four", Told.game("game 4 1 2 2;weight 0 0 5;weight 3 0 5").symmetries(), 4);
        Due.is("Ann's first two alone", Told.game("game 3 2 2 2;weight 2 0 5;weight 2 1 5").symmetries(), 4);
        Due.is("Ben's first two alone", Told.game("game 2 3 2 2;weight 0 2 5;weight 1 2 5").symmetries(), 4);
        Due.is("a weight of one x, y", Told.game("game 3 4 2 2;weight 2 1 5").symmetries(), 12);
        Due.is("as they are alone", Told.game(Sentences.CHSH).symmetries(), 1);
        Sentences.says(42, "NONE without a GAME");
        Sentences.refusedBare("symmetries()", ApartGames::symmetries);
    }

    private static void letter() {
        String[] parts = {"The k-th byte of the GAME as a TEXT: game", "weight of each x, y of which it is not 1",
            "win of each x, y, a, b that WINS", "box of each that is not 0",
            "each in order (by x, y, a, b), one blank between WORDS and NUMBERS,", "without blanks between PARTS"};
        String text = "game 2 2 2 3;weight 0 1 0;weight 1 0 9;win 0 0 0 0;win 0 0 1 2;win 1 1 0 1;box 0 1 0 0 10;"
                + "box 0 1 0 2 1;box 0 1 1 0 12;box 1 1 0 0 9";
        ApartGames g = Told.game(" game 2  2 2 3 ; box 1 1 0 0 9;box 0 1 1 0 12;win 1 1 0 1;box 0 1 0 2 1;box 0 1 0 0 10;"
                + "weight 1 0 9;win 0 0 1 2;box 1 0 0 0 0;win 0 0 0 0;weight 0 1 0;weight 0 0 1;win 0 0 1 2");
        for (String part : parts) {
            Sentences.says(43, part);
            Due.is("the text", Told.letters(g), text);
        }
        for (int k = 0; k < text.length(); k += 7) {
            Due.is("letter(" + k + ")", g.letter(k), text.charAt(k));
        }
        Sentences.says(43, "k NONE: how many");
        Due.is("letter(NONE)", g.letter(NONE), text.length());
        Due.is("letter(NONE) of no parts", Told.game("game 5 4 3 2").letter(NONE), 12);
        // All of the largest game: 25 weights, 400 wins, 400 boxes.
        g = Told.game("game 5 5 4 4");
        for (int i = 0; i < 25; i++) {
            g.weigh(i / 5, i % 5, 0);
            g.parity(i / 5, i % 5, 0);
        }
        for (int i = 0; i < 16; i++) {
            g.mix(11111 * (i / 4), 11111 * (i % 4), 12);
        }
        for (int i = 0; i < 400; i++) {
            int a = i / 4 % 4;
            int b = i % 4;
            if ((a + b) % 2 == 1) {
                g.decide(i / 80, i / 16 % 5, a, b);
            }
        }
        Due.is("all win", g.count(4), 400);
        int length = 12 + 25 * 13 + 400 * 12 + 400 * 15;
        Due.is("letter(NONE) of the longest text", g.letter(NONE), length);
        Due.is("its last byte", g.letter(length - 1), '2');
        Due.is("behind its last byte", g.letter(length), -2);
    }

    private static void letterRefused() {
        Sentences.says(43, "-2: it has not so many");
        ApartGames g = Told.game("game 1 1 2 2");
        Due.is("letter(0)", g.letter(0), 'g');
        Due.is("letter(11), the last", g.letter(11), '2');
        Due.is("letter(12)", g.letter(12), -2);
        Due.is("letter(13)", g.letter(13), -2);
        Due.is("letter(MAX)", g.letter(MAX), -2);
        Sentences.refused("letter(1000)", h -> h.letter(1000), -2);
        Sentences.says(43, "NONE for k below NONE");
        Sentences.refused("letter(-2)", h -> h.letter(-2), NONE);
        Sentences.refused("letter(-3)", h -> h.letter(-3), NONE);
        Sentences.refused("letter(MIN)", h -> h.letter(MIN), NONE);
        Sentences.refusedBare("letter(-2)", h -> h.letter(-2));
        Sentences.says(43, "Without a GAME nothing");
        ApartGames none = Sentences.bare();
        Due.is("letter(NONE) without a game", none.letter(NONE), 0);
        Due.is("letter(0) without a game", none.letter(0), -2);
        Due.is("letter(1) without a game", none.letter(1), -2);
        g.keep(0);
        none.keep(1);
        none.tell();
        none.back(1);
        Due.is("letter(NONE), brought back to no game", none.letter(NONE), 0);
        Due.is("letter(0), brought back to no game", none.letter(0), -2);
    }

    private static void count() {
        Sentences.says(44, "What 0: QUESTIONS of ANN, 1: of BEN, 2: ANSWERS of ANN, 3: of BEN, "
                + "4: how many x, y, a, b WIN, 5: ACTS that can be UNDONE, 6: bytes of the TAPE, "
                + "7: SHELVES on which something is KEPT, as bits");
        ApartGames g = Told.game("game 2 3 4 2;even 0 0;win 1 2 3 1;weight 0 0 0");
        counts(g, 2, 3, 4, 2, 5, 0, 0, 0);
        g.weigh(1, 1, 3);
        g.keep(1);
        Told.lay(g, "abc");
        counts(g, 2, 3, 4, 2, 5, 1, 3, 2);
        g.keep(0);
        g.swap();
        counts(g, 3, 2, 2, 4, 5, 2, 3, 3);
        g.keep(0);
        g.end(0);
        counts(g, 3, 2, 2, 4, 5, 2, 0, 3);
        g.drop(0, 0);
        // Where questions have gone nothing counts any more.
        counts(g, 2, 2, 2, 4, 1, 3, 0, 3);
        counts(new ApartGames(), 0, 0, 0, 0, 0, 0, 0, 0);
        ApartGames zero = Told.game("game 5 4 2 3");
        zero.keep(0);
        counts(zero, 5, 4, 2, 3, 0, 0, 0, 1);
        Sentences.says(44, "NONE for others");
        for (int bad : Sentences.not(8)) {
            Sentences.refused("count(" + bad + ")", h -> h.count(bad), NONE);
            Sentences.refusedBare("count(" + bad + ")", h -> h.count(bad));
        }
    }

    private static void counts(ApartGames g, int... due) {
        for (int what = 0; what < 8; what++) {
            Due.is("count(" + what + ")", g.count(what), due[what]);
        }
    }
}
