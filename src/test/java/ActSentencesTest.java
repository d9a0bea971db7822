/** Sentence by sentence: promises 5 to 17, all that changes a game. */
public final class ActSentencesTest {
    private static final int NONE = ApartGames.NONE;
    private static final int MIN = Sentences.MIN;
    private static final int MAX = Sentences.MAX;

    private ActSentencesTest() {
    }

    public static void main(String[] args) throws java.io.IOException {
        Sentences.open(args, "5", "6", "7", "8", "9", "10", "11", "12", "13", "14", "15", "16", "17");
        weigh();
        decide();
        parity();
        parityIsSo();
        exchange();
        exchangeWithout();
        swap();
        drop();
        dropOnlyOne();
        copy();
        copyFull();
        box();
        mix();
        mixWithout();
        mixAbove();
        draw();
        undo();
        keep();
        back();
        Sentences.end("ActSentencesTest");
    }

    private static void text(ApartGames g, String letters) {
        Due.is("the text", Told.letters(g), letters);
    }

    private static void weigh() {
        Sentences.says(5, "The WEIGHT of x, y is told (0 to 9): what it was");
        ApartGames g = Told.game("game 5 5 2 2");
        int was = 1;
        for (int n : new int[] {0, 9, 8, 7, 6, 5, 4, 3, 2, 1, 9, 0, 1, 2}) {
            Due.is("weigh(4, 0, " + n + ")", g.weigh(4, 0, n), was);
            Due.is("weight(4, 0)", g.weight(4, 0), n);
            was = n;
        }
        Due.is("weigh(0, 4, 0)", g.weigh(0, 4, 0), 1);
        Due.is("weigh(4, 4, 9)", g.weigh(4, 4, 9), 1);
        Due.is("weigh(0, 0, 5)", g.weigh(0, 0, 5), 1);
        text(g, "game 5 5 2 2;weight 0 0 5;weight 0 4 0;weight 4 0 2;weight 4 4 9");
        Sentences.says(5, "NONE, and nothing happens, without these");
        for (int bad : Sentences.not(2)) {
            Sentences.refused("weigh(" + bad + ", 0, 2)", h -> h.weigh(bad, 0, 2), NONE);
            Sentences.refused("weigh(0, " + bad + ", 2)", h -> h.weigh(0, bad, 2), NONE);
        }
        for (int bad : Sentences.not(10)) {
            Sentences.refused("weigh(0, 0, " + bad + ")", h -> h.weigh(0, 0, bad), NONE);
        }
        Sentences.refusedBare("weigh(0, 0, 1)", h -> h.weigh(0, 0, 1));
        Sentences.refusedBare("weigh(0, 0, 0)", h -> h.weigh(0, 0, 0));
        Sentences.says(5, "-2: it is so");
        Sentences.refused("weigh(0, 0, 1), so without being told", h -> h.weigh(0, 0, 1), -2);
        Sentences.refused("weigh(0, 1, 3), so by the text", h -> h.weigh(0, 1, 3), -2);
        Sentences.refused("weigh(1, 0, 5), so by weigh()", h -> h.weigh(1, 0, 5), -2);
        ApartGames none = Told.game("game 1 1 2 2;weight 0 0 0");
        Due.is("weigh(0, 0, 0) of 0", none.weigh(0, 0, 0), -2);
        Due.is("acts", none.count(5), 0);
    }

    private static void decide() {
        Sentences.says(6, "Whether x, y, a, b WINS is turned round: whether it does then (1, 0)");
        ApartGames g = Told.game("game 5 5 4 3;win 4 4 3 2");
        Due.is("decide(4, 4, 3, 2)", g.decide(4, 4, 3, 2), 0);
        Due.is("decide(0, 4, 3, 0)", g.decide(0, 4, 3, 0), 1);
        Due.is("decide(4, 0, 0, 2)", g.decide(4, 0, 0, 2), 1);
        Due.is("decide(4, 0, 0, 2) again", g.decide(4, 0, 0, 2), 0);
        Due.is("decide(4, 0, 0, 2) once more", g.decide(4, 0, 0, 2), 1);
        text(g, "game 5 5 4 3;win 0 4 3 0;win 4 0 0 2");
        Sentences.says(6, "NONE, and nothing happens, without these");
        for (int bad : Sentences.not(2)) {
            Sentences.refused("decide(" + bad + ", 0, 0, 0)", h -> h.decide(bad, 0, 0, 0), NONE);
            Sentences.refused("decide(0, " + bad + ", 0, 0)", h -> h.decide(0, bad, 0, 0), NONE);
            Sentences.refused("decide(0, 0, " + bad + ", 0)", h -> h.decide(0, 0, bad, 0), NONE);
        }
        for (int bad : Sentences.not(3)) {
            Sentences.refused("decide(0, 0, 0, " + bad + ")", h -> h.decide(0, 0, 0, bad), NONE);
        }
        Sentences.refusedBare("decide(0, 0, 0, 0)", h -> h.decide(0, 0, 0, 0));
    }

    private static void parity() {
        Sentences.says(7, "Of x, y those WIN from now on whose a and b together are even (s 0), odd (1): 1");
        for (int s = 0; s < 2; s++) {
            ApartGames g = Told.game("game 2 2 3 4;win 0 1 0 0;win 0 1 0 1;win 1 1 0 0");
            Due.is("parity(0, 1, " + s + ")", g.parity(0, 1, s), 1);
            for (int a = 0; a < 3; a++) {
                for (int b = 0; b < 4; b++) {
                    Due.is("wins(0, 1, " + a + ", " + b + ")", g.wins(0, 1, a, b), (a + b) % 2 == s ? 1 : 0);
                }
            }
            Due.is("the others stay", g.count(4), 7);
            Due.is("acts", g.count(5), 1);
        }
        for (String size : new String[] {"2 4", "4 2", "3 2", "2 3", "4 4"}) {
            ApartGames g = Told.game("game 1 1 " + size);
            Due.is("parity(0, 0, 0) of " + size, g.parity(0, 0, 0), 1);
            Due.is("even ones of " + size, g.count(4), (g.count(2) * g.count(3) + 1) / 2);
            Due.is("parity(0, 0, 1) of " + size, g.parity(0, 0, 1), 1);
            Due.is("odd ones of " + size, g.count(4), g.count(2) * g.count(3) / 2);
        }
        Sentences.says(7, "NONE, and nothing happens, without these");
        for (int bad : Sentences.not(2)) {
            Sentences.refused("parity(" + bad + ", 0, 0)", h -> h.parity(bad, 0, 0), NONE);
            Sentences.refused("parity(0, " + bad + ", 0)", h -> h.parity(0, bad, 0), NONE);
            Sentences.refused("parity(0, 0, " + bad + ")", h -> h.parity(0, 0, bad), NONE);
        }
        Sentences.refusedBare("parity(0, 0, 0)", h -> h.parity(0, 0, 0));
        Sentences.refusedBare("parity(0, 0, 1)", h -> h.parity(0, 0, 1));
    }

    private static void parityIsSo() {
        Sentences.says(7, "-2: it is so");
        Sentences.refusedOf(() -> Told.game("game 1 1 2 3;even 0 0"), "parity(0, 0, 0)", h -> h.parity(0, 0, 0), -2);
        Sentences.refusedOf(() -> Told.game("game 1 1 2 3;odd 0 0"), "parity(0, 0, 1)", h -> h.parity(0, 0, 1), -2);
        Sentences.refusedOf(() -> Told.game("game 1 1 2 3;odd 0 0;weight 0 0 0"), "parity(0, 0, 1) of weight 0",
                h -> h.parity(0, 0, 1), -2);
        // Almost so is not so: one more wins, or one fewer, at the edge of the table.
        Due.is("one more", Told.game("game 1 1 3 4;even 0 0;win 0 0 2 3").parity(0, 0, 0), 1);
        Due.is("one fewer", Told.game("game 1 1 2 2;win 0 0 0 0").parity(0, 0, 0), 1);
        Due.is("none", Told.game("game 1 1 2 2").parity(0, 0, 1), 1);
        Due.is("all", Told.game("game 1 1 2 2;odd 0 0;even 0 0").parity(0, 0, 1), 1);
        Due.is("the other way", Told.game("game 1 1 2 2;odd 0 0").parity(0, 0, 0), 1);
    }

    private static void exchange() {
        Sentences.says(8, "A player (0 ANN, 1 BEN) calls one ANSWER to a QUESTION as another one, and that as the one, "
                + "from now on (WINS, BOX): 1");
        ApartGames g = Told.game("game 2 2 3 4;win 1 0 0 3;win 1 1 2 1;win 0 1 0 0;box 1 0 0 1 5;box 1 1 2 2 7;"
                + "box 1 0 2 3 12;box 1 0 1 1 2;weight 1 0 4");
        Due.is("exchange(0, 1, 0, 2)", g.exchange(0, 1, 0, 2), 1);
        text(g, "game 2 2 3 4;weight 1 0 4;win 0 1 0 0;win 1 0 2 3;win 1 1 0 1;box 1 0 0 3 12;box 1 0 1 1 2;"
                + "box 1 0 2 1 5;box 1 1 0 2 7");
        Due.is("exchange(1, 0, 3, 1)", g.exchange(1, 0, 3, 1), 1);
        text(g, "game 2 2 3 4;weight 1 0 4;win 0 1 0 0;win 1 0 2 1;win 1 1 0 1;box 1 0 0 1 12;box 1 0 1 3 2;"
                + "box 1 0 2 3 5;box 1 1 0 2 7");
        Due.is("exchange(1, 0, 1, 3), and that as the one", g.exchange(1, 0, 1, 3), 1);
        Due.is("exchange(0, 1, 2, 0), and that as the one", g.exchange(0, 1, 2, 0), 1);
        text(g, "game 2 2 3 4;weight 1 0 4;win 0 1 0 0;win 1 0 0 3;win 1 1 2 1;box 1 0 0 1 5;box 1 0 1 1 2;"
                + "box 1 0 2 3 12;box 1 1 2 2 7");
        Due.is("acts", g.count(5), 4);
        // At all questions and answers of the other one, whoever has more of them.
        g = Told.game("game 5 1 4 2;win 4 0 3 0;box 4 0 3 0 5");
        Due.is("exchange(1, 0, 0, 1) of one against 5", g.exchange(1, 0, 0, 1), 1);
        text(g, "game 5 1 4 2;win 4 0 3 1;box 4 0 3 1 5");
        g = Told.game("game 1 5 2 4;win 0 4 0 3;box 0 4 0 3 5");
        Due.is("exchange(0, 0, 0, 1) of one against 5", g.exchange(0, 0, 0, 1), 1);
        text(g, "game 1 5 2 4;win 0 4 1 3;box 0 4 1 3 5");
        g = Told.game("game 1 1 2 2");
        Due.is("exchange(0, 0, 0, 1) of answers alike", g.exchange(0, 0, 0, 1), 1);
        Due.is("it is an act", g.count(5), 1);
    }

    private static void exchangeWithout() {
        Sentences.says(8, "NONE, and nothing happens, without these, or if both are one");
        for (int bad : Sentences.not(2)) {
            Sentences.refused("exchange(" + bad + ", 0, 0, 1)", h -> h.exchange(bad, 0, 0, 1), NONE);
            Sentences.refused("exchange(0, " + bad + ", 0, 1)", h -> h.exchange(0, bad, 0, 1), NONE);
            Sentences.refused("exchange(1, " + bad + ", 0, 1)", h -> h.exchange(1, bad, 0, 1), NONE);
            Sentences.refused("exchange(0, 0, " + bad + ", 1)", h -> h.exchange(0, 0, bad, 1), NONE);
            Sentences.refused("exchange(0, 0, 1, " + bad + ")", h -> h.exchange(0, 0, 1, bad), NONE);
        }
        for (int bad : Sentences.not(3)) {
            Sentences.refused("exchange(1, 0, " + bad + ", 1)", h -> h.exchange(1, 0, bad, 1), NONE);
            Sentences.refused("exchange(1, 0, 1, " + bad + ")", h -> h.exchange(1, 0, 1, bad), NONE);
        }
        Sentences.refused("exchange(0, 0, 0, 0)", h -> h.exchange(0, 0, 0, 0), NONE);
        Sentences.refused("exchange(0, 0, 1, 1)", h -> h.exchange(0, 0, 1, 1), NONE);
        Sentences.refused("exchange(1, 1, 2, 2)", h -> h.exchange(1, 1, 2, 2), NONE);
        Sentences.refusedBare("exchange(0, 0, 0, 1)", h -> h.exchange(0, 0, 0, 1));
        Due.is("Ben's last answer", Sentences.rich().exchange(1, 1, 0, 2), 1);
    }

    private static void swap() {
        Sentences.says(9, "ANN and BEN exchange all that they have: 1");
        ApartGames g = Told.game("game 2 5 4 3;weight 1 4 7;weight 0 2 0;win 1 4 3 2;win 0 0 3 0;box 1 3 2 1 12;"
                + "box 0 4 0 2 3");
        String old = Told.letters(g);
        Due.is("swap()", g.swap(), 1);
        text(g, "game 5 2 3 4;weight 2 0 0;weight 4 1 7;win 0 0 0 3;win 4 1 2 3;box 3 1 1 2 12;box 4 0 2 0 3");
        Due.is("swap() again", g.swap(), 1);
        text(g, old);
        Due.is("acts", g.count(5), 2);
        Due.is("undo()", g.undo(), 1);
        Due.is("questions of Ann", g.count(0), 5);
        Due.is("undo() once more", g.undo(), 0);
        text(g, old);
        Sentences.says(9, "NONE, and nothing happens, without a GAME");
        Sentences.refusedBare("swap()", ApartGames::swap);
    }

    private static void drop() {
        Sentences.says(10, "A QUESTION of a player goes (later ones have a number less): how many are left");
        String three = "game 3 2 2 3;weight 0 0 2;weight 1 0 3;weight 2 1 4;win 0 1 0 2;win 1 0 1 0;win 2 1 1 2;"
                + "box 0 0 0 1 6;box 1 1 1 1 7;box 2 1 1 2 8";
        ApartGames g = Told.game(three);
        Due.is("drop(0, 0)", g.drop(0, 0), 2);
        text(g, "game 2 2 2 3;weight 0 0 3;weight 1 1 4;win 0 0 1 0;win 1 1 1 2;box 0 1 1 1 7;box 1 1 1 2 8");
        g = Told.game(three);
        Due.is("drop(0, 1)", g.drop(0, 1), 2);
        text(g, "game 2 2 2 3;weight 0 0 2;weight 1 1 4;win 0 1 0 2;win 1 1 1 2;box 0 0 0 1 6;box 1 1 1 2 8");
        g = Told.game(three);
        Due.is("drop(0, 2)", g.drop(0, 2), 2);
        text(g, "game 2 2 2 3;weight 0 0 2;weight 1 0 3;win 0 1 0 2;win 1 0 1 0;box 0 0 0 1 6;box 1 1 1 1 7");
        g = Told.game(three);
        Due.is("drop(1, 0)", g.drop(1, 0), 1);
        text(g, "game 3 1 2 3;weight 2 0 4;win 0 0 0 2;win 2 0 1 2;box 1 0 1 1 7;box 2 0 1 2 8");
        g = Told.game(three);
        Due.is("drop(1, 1)", g.drop(1, 1), 1);
        text(g, "game 3 1 2 3;weight 0 0 2;weight 1 0 3;win 1 0 1 0;box 0 0 0 1 6");
        g = Told.game("game 5 5 2 2;weight 4 4 9");
        for (int left = 4; left > 0; left--) {
            Due.is("drop(0, 0) to " + left, g.drop(0, 0), left);
            Due.is("drop(1, 0) to " + left, g.drop(1, 0), left);
        }
        text(g, "game 1 1 2 2;weight 0 0 9");
    }

    private static void dropOnlyOne() {
        Sentences.says(10, "NONE, and nothing happens, without these");
        for (int bad : Sentences.not(2)) {
            Sentences.refused("drop(" + bad + ", 0)", h -> h.drop(bad, 0), NONE);
            Sentences.refused("drop(0, " + bad + ")", h -> h.drop(0, bad), NONE);
            Sentences.refused("drop(1, " + bad + ")", h -> h.drop(1, bad), NONE);
        }
        Sentences.refusedBare("drop(0, 0)", h -> h.drop(0, 0));
        Sentences.refusedBare("drop(1, 0)", h -> h.drop(1, 0));
        Sentences.says(10, "-2: it is the only one");
        Sentences.refusedOf(() -> Told.game("game 1 2 2 2"), "drop(0, 0) of one", h -> h.drop(0, 0), -2);
        Sentences.refusedOf(() -> Told.game("game 2 1 2 2"), "drop(1, 0) of one", h -> h.drop(1, 0), -2);
        Due.is("drop(1, 0) where Ann has one", Told.game("game 1 2 2 2").drop(1, 0), 1);
        Due.is("drop(0, 1) where Ben has one", Told.game("game 2 1 2 2").drop(0, 1), 1);
    }

    private static void copy() {
        Sentences.says(11, "A player has one QUESTION more, the last one, with all as a QUESTION has it: how many");
        String two = "game 2 2 2 3;weight 0 0 2;weight 1 1 4;win 0 1 0 2;win 1 1 1 0;box 0 0 0 1 6;box 1 1 1 2 8";
        ApartGames g = Told.game(two);
        Due.is("copy(0, 0)", g.copy(0, 0), 3);
        text(g, "game 3 2 2 3;weight 0 0 2;weight 1 1 4;weight 2 0 2;win 0 1 0 2;win 1 1 1 0;win 2 1 0 2;"
                + "box 0 0 0 1 6;box 1 1 1 2 8;box 2 0 0 1 6");
        g = Told.game(two);
        Due.is("copy(1, 1)", g.copy(1, 1), 3);
        text(g, "game 2 3 2 3;weight 0 0 2;weight 1 1 4;weight 1 2 4;win 0 1 0 2;win 0 2 0 2;win 1 1 1 0;win 1 2 1 0;"
                + "box 0 0 0 1 6;box 1 1 1 2 8;box 1 2 1 2 8");
        g = Told.game("game 5 1 4 2;win 4 0 3 1;box 4 0 3 1 5;weight 4 0 6");
        Due.is("copy(1, 0) of one against 5", g.copy(1, 0), 2);
        text(g, "game 5 2 4 2;weight 4 0 6;weight 4 1 6;win 4 0 3 1;win 4 1 3 1;box 4 0 3 1 5;box 4 1 3 1 5");
        g.swap();
        Due.is("drop(0, 0)", g.drop(0, 0), 1);
        Due.is("copy(0, 0) of one against 5", g.copy(0, 0), 2);
        text(g, "game 2 5 2 4;weight 0 4 6;weight 1 4 6;win 0 4 1 3;win 1 4 1 3;box 0 4 1 3 5;box 1 4 1 3 5");
        // What was dropped there before does not shine through.
        g = Told.game("game 2 1 2 2;weight 1 0 5;win 1 0 0 0;win 1 0 1 1;box 1 0 1 1 4");
        Due.is("drop(0, 1)", g.drop(0, 1), 1);
        Due.is("copy(0, 0)", g.copy(0, 0), 2);
        text(g, "game 2 1 2 2");
        for (int n = 3; n <= 5; n++) {
            Due.is("copy(0, 1) to " + n, g.copy(0, 1), n);
        }
        for (int n = 2; n <= 5; n++) {
            Due.is("copy(1, " + (n - 2) + ") to " + n, g.copy(1, n - 2), n);
        }
        Due.is("acts", g.count(5), 9);
    }

    private static void copyFull() {
        Sentences.says(11, "NONE, and nothing happens, without these");
        for (int bad : Sentences.not(2)) {
            Sentences.refused("copy(" + bad + ", 0)", h -> h.copy(bad, 0), NONE);
            Sentences.refused("copy(0, " + bad + ")", h -> h.copy(0, bad), NONE);
            Sentences.refused("copy(1, " + bad + ")", h -> h.copy(1, bad), NONE);
        }
        Sentences.refusedBare("copy(0, 0)", h -> h.copy(0, 0));
        Sentences.refusedBare("copy(1, 0)", h -> h.copy(1, 0));
        Sentences.says(11, "-2: there are 5");
        Sentences.refusedOf(() -> Told.game("game 5 4 2 2"), "copy(0, 4) of 5", h -> h.copy(0, 4), -2);
        Sentences.refusedOf(() -> Told.game("game 4 5 2 2"), "copy(1, 0) of 5", h -> h.copy(1, 0), -2);
        Due.is("copy(1, 3) where Ann has 5", Told.game("game 5 4 2 2").copy(1, 3), 5);
        Due.is("copy(0, 3) where Ben has 5", Told.game("game 4 5 2 2").copy(0, 3), 5);
    }

    private static void box() {
        Sentences.says(12, "The BOX at x, y, a, b is told (0 to 12): what it was");
        ApartGames g = Told.game("game 5 5 4 3;box 4 4 3 2 11");
        int was = 11;
        for (int n : new int[] {12, 0, 1, 12, 6, 0, 12}) {
            Due.is("box(4, 4, 3, 2, " + n + ")", g.box(4, 4, 3, 2, n), was);
            was = n;
        }
        Due.is("box(0, 4, 0, 2, 1)", g.box(0, 4, 0, 2, 1), 0);
        Due.is("box(4, 0, 3, 0, 10)", g.box(4, 0, 3, 0, 10), 0);
        text(g, "game 5 5 4 3;box 0 4 0 2 1;box 4 0 3 0 10;box 4 4 3 2 12");
        Sentences.says(12, "NONE, and nothing happens, without these");
        for (int bad : Sentences.not(2)) {
            Sentences.refused("box(" + bad + ", 0, 0, 0, 1)", h -> h.box(bad, 0, 0, 0, 1), NONE);
            Sentences.refused("box(0, " + bad + ", 0, 0, 1)", h -> h.box(0, bad, 0, 0, 1), NONE);
            Sentences.refused("box(0, 0, " + bad + ", 0, 1)", h -> h.box(0, 0, bad, 0, 1), NONE);
        }
        for (int bad : Sentences.not(3)) {
            Sentences.refused("box(0, 0, 0, " + bad + ", 1)", h -> h.box(0, 0, 0, bad, 1), NONE);
        }
        for (int bad : Sentences.not(13)) {
            Sentences.refused("box(0, 0, 0, 0, " + bad + ")", h -> h.box(0, 0, 0, 0, bad), NONE);
        }
        Sentences.refusedBare("box(0, 0, 0, 0, 1)", h -> h.box(0, 0, 0, 0, 1));
        Sentences.refusedBare("box(0, 0, 0, 0, 0)", h -> h.box(0, 0, 0, 0, 0));
        Sentences.says(12, "-2: it is so");
        Sentences.refused("box(0, 0, 0, 0, 0)", h -> h.box(0, 0, 0, 0, 0), -2);
        Sentences.refused("box(1, 1, 0, 0, 4)", h -> h.box(1, 1, 0, 0, 4), -2);
        Due.is("box() of 12 again", g.box(4, 4, 3, 2, 12), -2);
    }

    private static void mix() {
        Sentences.says(13, "At all x, y the BOX tells n (1 to 12) more at the ANSWERS of two ROWS: 1");
        for (int n = 1; n <= 12; n++) {
            ApartGames g = Told.game("game 2 3 4 2");
            Due.is("mix(30, 101, " + n + ")", g.mix(30, 101, n), 1);
            text(g, "game 2 3 4 2;box 0 0 3 1 N;box 0 1 3 0 N;box 0 2 3 1 N;box 1 0 0 1 N;box 1 1 0 0 N;box 1 2 0 1 N"
                    .replace("N", Integer.toString(n)));
            Due.is("acts", g.count(5), 1);
        }
        ApartGames g = Told.game("game 5 5 4 4;weight 4 4 0");
        Due.is("mix(33333, 33333, 11)", g.mix(33333, 33333, 11), 1);
        Due.is("mix(33333, 33333, 1)", g.mix(33333, 33333, 1), 1);
        Due.is("mix(0, 0, 12)", g.mix(0, 0, 12), 1);
        Due.is("letter(NONE)", g.letter(NONE), 12 + 13 + 25 * 15 * 2);
    }

    private static void mixWithout() {
        Sentences.says(13, "NONE, and nothing happens, without these");
        for (int bad : new int[] {-1, 0, 13, 14, MIN, MAX}) {
            Sentences.refused("mix(0, 0, " + bad + ")", h -> h.mix(0, 0, bad), NONE);
        }
        for (int bad : new int[] {-1, 2, 9, 12, 20, 100, 101, 1000, -10, -11, MIN, MAX}) {
            Sentences.refused("mix(" + bad + ", 0, 1)", h -> h.mix(bad, 0, 1), NONE);
        }
        for (int bad : new int[] {-1, 3, 9, 13, 23, 30, 100, 101, 1000, -10, -11, MIN, MAX}) {
            Sentences.refused("mix(0, " + bad + ", 1)", h -> h.mix(0, bad, 1), NONE);
        }
        Sentences.refusedBare("mix(0, 0, 1)", h -> h.mix(0, 0, 1));
        Due.is("the last rows there are", Sentences.rich().mix(11, 22, 1), 1);
    }

    private static void mixAbove() {
        Sentences.says(13, "-2: somewhere it would be above 12");
        Sentences.refused("mix(10, 20, 9) at the box 1, 1, 0, 0", h -> h.mix(10, 20, 9), -2);
        Sentences.refused("mix(10, 20, 12) at the box 1, 1, 0, 0", h -> h.mix(10, 20, 12), -2);
        Due.is("mix(10, 20, 8) there", Sentences.rich().mix(10, 20, 8), 1);
        Due.is("mix(11, 20, 12) beside", Sentences.rich().mix(11, 20, 12), 1);
        Due.is("mix(10, 21, 12) beside", Sentences.rich().mix(10, 21, 12), 1);
        Sentences.refusedOf(() -> Told.game("game 4 1 2 2;box 3 0 1 1 12"), "mix(1, 1, 1)", h -> h.mix(1, 1, 1), -2);
        Sentences.refusedOf(() -> Told.game("game 1 4 2 2;box 0 3 1 1 12"), "mix(1, 1, 1)", h -> h.mix(1, 1, 1), -2);
        ApartGames wide = Told.game("game 4 1 2 2");
        Due.is("mix(1, 1, 12) of 4 by 1", wide.mix(1, 1, 12), 1);
        text(wide, "game 4 1 2 2;box 0 0 0 1 12;box 1 0 0 1 12;box 2 0 0 1 12;box 3 0 1 1 12");
        for (int full = 0; full < 4; full++) {
            String text = "game 2 2 2 2;box " + full / 2 + " " + full % 2 + " 1 1 12";
            Sentences.refusedOf(() -> Told.game(text), "mix(11, 11, 1) of " + text, h -> h.mix(11, 11, 1), -2);
        }
    }

    // Without ints: the seed as a number below 2 to the 32nd.
    private static int drawn(ApartGames g, long seed, int nx, int ny, int na, int nb) {
        long state = Math.floorMod(seed, 1L << 32);
        int winning = 0;
        for (int x = 0; x < nx; x++) {
            for (int y = 0; y < ny; y++) {
                state = next(state);
                Due.is("weight(" + x + ", " + y + ") by " + seed, g.weight(x, y), state / 65536 % 4 + 1);
                for (int a = 0; a < na; a++) {
                    for (int b = 0; b < nb; b++) {
                        state = next(state);
                        Due.is("wins() by " + seed, g.wins(x, y, a, b), state / 65536 % 2);
                        winning += (int) (state / 65536 % 2);
                    }
                }
            }
        }
        return winning;
    }

    private static long next(long state) {
        return Long.remainderUnsigned(state * 1103515245L + 12345L, 1L << 32);
    }

    private static void draw() {
        Sentences.says(14, "WEIGHTS and WINS are DRAWN by a seed (x becomes x * 1103515245 + 12345, an int, wrapping; "
                + "a DRAW of m: x >>> 16, of m the rest)");
        for (int seed : new int[] {0, 1, -1, 2, 7, 1000, -1000, 65536, 123456789, MIN, MIN + 1, MAX, MAX - 1}) {
            ApartGames g = Told.game("game 2 3 2 2;weight 1 2 9;even 0 0;box 1 1 1 1 5");
            int answered = g.draw(seed);
            Due.is("draw(" + seed + ")", answered, drawn(g, seed, 2, 3, 2, 2));
            Due.is("the box stays", g.marginal(0, 1, 1, 1), 5);
            Due.is("acts", g.count(5), 1);
        }
        Sentences.says(14, "by x, by y: DRAW of 4 (and 1: the WEIGHT), then by a, by b: DRAW of 2 (1: it WINS): "
                + "how many WIN");
        ApartGames g = Told.game("game 2 2 4 3;box 1 1 3 2 12");
        int answered = g.draw(-4711);
        Due.is("draw(-4711)", answered, drawn(g, -4711, 2, 2, 4, 3));
        Due.is("count(4)", g.count(4), answered);
        Due.is("draw() again, the same", g.draw(-4711), answered);
        Due.is("that is an act, too", g.count(5), 2);
        g = Told.game("game 5 5 4 4");
        answered = g.draw(MIN);
        Due.is("draw(MIN) of the largest", answered, drawn(g, MIN, 5, 5, 4, 4));
        g = Told.game("game 4 1 2 3");
        answered = g.draw(9);
        Due.is("draw(9) of 4 by 1", answered, drawn(g, 9, 4, 1, 2, 3));
        g = Told.game("game 1 4 3 2");
        answered = g.draw(9);
        Due.is("draw(9) of 1 by 4", answered, drawn(g, 9, 1, 4, 3, 2));
        Sentences.says(14, "NONE, and nothing happens, without a GAME");
        Sentences.refusedBare("draw(0)", h -> h.draw(0));
        Sentences.refusedBare("draw(-1)", h -> h.draw(-1));
    }

    private static void undo() {
        Sentences.says(15, "The last ACT is UNDONE: how many more can be");
        ApartGames g = Told.game("game 1 1 2 2");
        g.weigh(0, 0, 7);
        g.box(0, 0, 0, 0, 3);
        g.decide(0, 0, 1, 1);
        Due.is("undo() of three", g.undo(), 2);
        text(g, "game 1 1 2 2;weight 0 0 7;box 0 0 0 0 3");
        // The one undone is gone; a new one stands in its place.
        g.weigh(0, 0, 8);
        Due.is("undo() of the new one", g.undo(), 2);
        text(g, "game 1 1 2 2;weight 0 0 7;box 0 0 0 0 3");
        Due.is("undo() of two", g.undo(), 1);
        text(g, "game 1 1 2 2;weight 0 0 7");
        Due.is("undo() of one", g.undo(), 0);
        text(g, "game 1 1 2 2");
        Sentences.says(15, "NONE, and nothing happens, if none can");
        Due.is("undo() of none", g.undo(), NONE);
        text(g, "game 1 1 2 2");
        Due.is("acts", g.count(5), 0);
        Sentences.refusedBare("undo()", ApartGames::undo);
        Sentences.refusedOf(() -> Told.game("game 2 1 2 2;even 0 0"), "undo() behind tell()", ApartGames::undo, NONE);
        Sentences.refusedOf(ActSentencesTest::tenUndone, "undo() behind ten", ApartGames::undo, NONE);
        Sentences.refusedOf(ActSentencesTest::broughtBack, "undo() behind back()", ApartGames::undo, NONE);
        g.weigh(0, 0, 3);
        Due.is("undo() behind none", g.undo(), 0);
    }

    private static ApartGames tenUndone() {
        ApartGames g = Told.game("game 1 1 2 2");
        for (int i = 0; i < 11; i++) {
            g.decide(0, 0, 0, 0);
        }
        for (int i = 0; i < 10; i++) {
            g.undo();
        }
        return g;
    }

    private static ApartGames broughtBack() {
        ApartGames g = Sentences.rich();
        g.back(1);
        return g;
    }

    private static void keep() {
        Sentences.says(16, "All is KEPT on a SHELF: how many QUESTIONS ANN has");
        ApartGames g = Told.game("game 3 2 2 3;weight 2 1 0;win 2 1 1 2;box 2 1 1 2 12");
        String first = Told.letters(g);
        Due.is("keep(0)", g.keep(0), 3);
        g.drop(0, 0);
        String second = Told.letters(g);
        Due.is("keep(1)", g.keep(1), 2);
        Due.is("keep() is no act", g.count(5), 1);
        Due.is("count(7)", g.count(7), 3);
        g.draw(5);
        Due.is("back(0)", g.back(0), 3);
        text(g, first);
        Due.is("back(1)", g.back(1), 2);
        text(g, second);
        Due.is("keep(0) over the old one", g.keep(0), 2);
        g.draw(6);
        Due.is("back(0) then", g.back(0), 2);
        text(g, second);
        ApartGames none = new ApartGames();
        Due.is("keep(0) without a game", none.keep(0), 0);
        Due.is("count(7) then", none.count(7), 1);
        Sentences.says(16, "NONE, and nothing happens, without that SHELF");
        for (int bad : Sentences.not(2)) {
            Sentences.refused("keep(" + bad + ")", h -> h.keep(bad), NONE);
        }
        for (int bad : new int[] {31, 32, 33, 64}) {
            Sentences.refused("keep(" + bad + ")", h -> h.keep(bad), NONE);
        }
        Sentences.refusedBare("keep(2)", h -> h.keep(2));
    }

    private static void back() {
        Sentences.says(17, "All is as it was KEPT (nothing can be UNDONE then): how many QUESTIONS ANN has");
        ApartGames g = Told.game("game 3 2 2 3;weight 2 1 0;win 2 1 1 2;box 2 1 1 2 12");
        String kept = Told.letters(g);
        g.keep(1);
        g.swap();
        g.draw(3);
        g.mix(0, 0, 1);
        Told.lay(g, "abc");
        Due.is("back(1)", g.back(1), 3);
        text(g, kept);
        Due.is("acts", g.count(5), 0);
        Due.is("undo()", g.undo(), NONE);
        Due.is("the tape stays", g.count(6), 3);
        Due.is("the shelves stay", g.count(7), 2);
        // What is done then does not reach the shelf.
        g.weigh(0, 0, 9);
        g.decide(0, 0, 0, 0);
        g.box(0, 0, 0, 0, 1);
        Due.is("back(1) again", g.back(1), 3);
        text(g, kept);
        ApartGames none = new ApartGames();
        none.keep(0);
        Told.tell(none, "game 2 2 2 2");
        none.weigh(0, 0, 2);
        Due.is("back(0) of no game", none.back(0), 0);
        Due.is("letter(NONE) of no game", none.letter(NONE), 0);
        Due.is("undo() to no game", none.undo(), NONE);
        Due.is("worth(1) of no game", none.worth(1), NONE);
        for (int what = 0; what < 7; what++) {
            Due.is("count(" + what + ") of no game", none.count(what), 0);
        }
        Sentences.says(17, "NONE, and nothing happens, without that SHELF");
        for (int bad : Sentences.not(2)) {
            Sentences.refused("back(" + bad + ")", h -> h.back(bad), NONE);
        }
        for (int bad : new int[] {31, 32, 33, 65}) {
            Sentences.refused("back(" + bad + ")", h -> h.back(bad), NONE);
        }
        Sentences.refusedBare("back(2)", h -> h.back(2));
        Sentences.says(17, "-2: nothing is");
        Sentences.refused("back(0), on which nothing is", h -> h.back(0), -2);
        Sentences.refusedOf(Sentences::bare, "back(1) of a new object", h -> h.back(1), -2);
        ApartGames zero = Told.game("game 1 1 2 2");
        zero.keep(0);
        Due.is("back(1) where 0 is kept", zero.back(1), -2);
    }
}
