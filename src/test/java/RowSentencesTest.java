/** Sentence by sentence: promises 18 to 29, what rows are worth. */
public final class RowSentencesTest {
    private static final int NONE = ApartGames.NONE;
    private static final int MIN = Sentences.MIN;
    private static final int MAX = Sentences.MAX;
    /** Ann's 1 to question 0 wins for sure 3; Ben is sure of 2 by his 2 alone. */
    private static final String SURE = "game 2 1 2 3;weight 0 0 3;weight 1 0 2;win 0 0 1 0;win 0 0 1 1;win 0 0 1 2;"
            + "win 1 0 0 2;win 1 0 1 2";
    /** Weights and wins of no order. */
    private static final String MIXED = "game 2 2 3 2;weight 0 0 5;weight 1 0 2;weight 0 1 3;weight 1 1 7;"
            + "win 0 0 2 1;win 1 0 0 0;win 0 1 2 0;win 1 1 0 0;win 1 1 1 1";

    private RowSentencesTest() {
    }

    public static void main(String[] args) throws java.io.IOException {
        Sentences.open(args, "18", "19", "20", "21", "22", "23", "24", "25", "26", "27", "28", "29");
        wins();
        weight();
        worthMostAndLeast();
        worthSure();
        worthOthers();
        sure();
        play();
        hangs();
        reply();
        bests();
        best();
        bestWithout();
        lost();
        mean();
        talk();
        Sentences.end("RowSentencesTest");
    }

    private static void wins() {
        Sentences.says(18, "Whether x, y, a, b WINS (1, 0)");
        ApartGames g = Told.game("game 5 5 4 3;win 4 0 3 0;win 0 4 0 2");
        Due.is("wins(4, 0, 3, 0)", g.wins(4, 0, 3, 0), 1);
        Due.is("wins(0, 4, 0, 2)", g.wins(0, 4, 0, 2), 1);
        Due.is("wins(0, 4, 3, 0)", g.wins(0, 4, 3, 0), 0);
        Due.is("wins(4, 4, 3, 2)", g.wins(4, 4, 3, 2), 0);
        Due.is("wins(0, 0, 0, 0)", g.wins(0, 0, 0, 0), 0);
        Due.is("wins() of weight 0", Told.game("game 1 1 2 2;weight 0 0 0;win 0 0 1 1").wins(0, 0, 1, 1), 1);
        Sentences.says(18, "NONE without these");
        for (int bad : Sentences.not(2)) {
            Sentences.refused("wins(" + bad + ", 0, 0, 0)", h -> h.wins(bad, 0, 0, 0), NONE);
            Sentences.refused("wins(0, " + bad + ", 0, 0)", h -> h.wins(0, bad, 0, 0), NONE);
            Sentences.refused("wins(0, 0, " + bad + ", 0)", h -> h.wins(0, 0, bad, 0), NONE);
        }
        for (int bad : Sentences.not(3)) {
            Sentences.refused("wins(0, 0, 0, " + bad + ")", h -> h.wins(0, 0, 0, bad), NONE);
        }
        Sentences.refusedBare("wins(0, 0, 0, 0)", h -> h.wins(0, 0, 0, 0));
    }

    private static void weight() {
        Sentences.says(19, "The WEIGHT of x, y");
        ApartGames g = Told.game("game 5 5 2 2;weight 4 0 0;weight 0 4 9");
        Due.is("weight(4, 0)", g.weight(4, 0), 0);
        Due.is("weight(0, 4)", g.weight(0, 4), 9);
        Due.is("weight(4, 4)", g.weight(4, 4), 1);
        Due.is("weight(0, 0)", g.weight(0, 0), 1);
        Sentences.says(19, "NONE without these");
        for (int bad : Sentences.not(2)) {
            Sentences.refused("weight(" + bad + ", 0)", h -> h.weight(bad, 0), NONE);
            Sentences.refused("weight(0, " + bad + ")", h -> h.weight(0, bad), NONE);
        }
        Sentences.refusedBare("weight(0, 0)", h -> h.weight(0, 0));
    }

    private static void worths(String text, int... due) {
        ApartGames g = Told.game(text);
        for (int what = 0; what < due.length; what++) {
            Due.is("worth(" + what + ") of " + text, g.worth(what), due[what]);
        }
    }

    private static void worthMostAndLeast() {
        Sentences.says(20, "What 0: the most that two ROWS are WORTH, 1: all WEIGHTS together");
        worths(Sentences.CHSH, 3, 4);
        worths("game 1 1 2 2", 0, 1);
        worths("game 1 1 2 2;weight 0 0 0;even 0 0", 0, 0);
        worths(SURE, 5, 5);
        worths(MIXED, 15, 17);
        worths("game 5 5 4 4", 0, 25);
        ApartGames g = Told.game("game 5 5 2 2");
        for (int i = 0; i < 25; i++) {
            g.weigh(i / 5, i % 5, 9);
            g.parity(i / 5, i % 5, i / 5 % 2);
        }
        Due.is("worth(0), all the weight there can be", g.worth(0), 225);
        Due.is("worth(1), all the weight there can be", g.worth(1), 225);
        Sentences.says(20, "2: the least that two ROWS are WORTH");
        Due.is("worth(2) of 225", g.worth(2), 0);
        for (int i = 0; i < 100; i++) {
            if (g.wins(i / 20, i / 4 % 5, i / 2 % 2, i % 2) == 0) {
                g.decide(i / 20, i / 4 % 5, i / 2 % 2, i % 2);
            }
        }
        Due.is("worth(2) where all wins", g.worth(2), 225);
        Due.is("worth(3) where all wins", g.worth(3), 225);
        worths(Sentences.CHSH, 3, 4, 1);
        worths(SURE, 5, 5, 0);
        worths("game 1 1 2 2;even 0 0;odd 0 0;weight 0 0 9", 9, 9, 9);
        // All but one win, so that just one two of rows is worth least.
        worths("game 1 1 2 2;win 0 0 0 0;odd 0 0", 1, 1, 0);
        worths("game 1 1 4 4;unlike 0 0;win 0 0 0 0;win 0 0 1 1;win 0 0 2 2", 1, 1, 0);
    }

    private static void worthSure() {
        Sentences.says(20, "3: the most of which ANN can be sure (whatever ROW BEN has)");
        worths(Sentences.CHSH, 3, 4, 1, 1);
        worths(SURE, 5, 5, 0, 3);
        worths("game 1 1 2 2;even 0 0", 1, 1, 0, 0);
        worths("game 1 1 2 2;win 0 0 1 0;win 0 0 1 1", 1, 1, 0, 1);
        Sentences.says(20, "4: BEN likewise");
        worths(Sentences.CHSH, 3, 4, 1, 1, 1);
        worths(SURE, 5, 5, 0, 3, 2);
        worths("game 1 1 2 2;win 0 0 1 0;win 0 0 1 1", 1, 1, 0, 1, 0);
        worths("game 1 1 2 4;win 0 0 0 3;win 0 0 1 3;weight 0 0 8", 8, 8, 0, 0, 8);
        // Ben's one row may lose at the one or the other of Ann's questions.
        worths("game 2 1 2 2;win 0 0 0 0;win 0 0 1 0;win 1 0 0 1;win 1 0 1 1;weight 1 0 2", 2, 3, 1, 1, 2);
    }

    private static void worthOthers() {
        // Each asked alone, and behind a smaller game and others of the kind: nothing of these is left.
        int[] due = {5, 5, 0, 3, 2};
        for (int what = 0; what < 5; what++) {
            ApartGames g = Told.game("game 1 1 2 2;even 0 0;odd 0 0;weight 0 0 9");
            for (int ahead = 0; ahead < 5; ahead++) {
                Due.is("worth(" + ahead + ") of all", g.worth(ahead), 9);
            }
            Told.tell(g, SURE);
            Due.is("worth(" + what + ") behind a smaller game", g.worth(what), due[what]);
            for (int other = 4; other >= 0; other--) {
                Due.is("worth(" + other + ") behind worth(" + what + ")", g.worth(other), due[other]);
                Due.is("worth(" + what + ") behind worth(" + other + ")", g.worth(what), due[what]);
            }
        }
        Sentences.says(20, "NONE for others, without a GAME");
        for (int bad : Sentences.not(5)) {
            Sentences.refused("worth(" + bad + ")", h -> h.worth(bad), NONE);
        }
        for (int what = 0; what < 5; what++) {
            int asked = what;
            Sentences.refusedBare("worth(" + what + ")", h -> h.worth(asked));
        }
    }

    private static void sure() {
        Sentences.says(21, "The least ROW of a player by which they are sure of the most (worth(3), worth(4))");
        ApartGames g = Told.game(SURE);
        Due.is("sure(0)", g.sure(0), 10);
        Due.is("sure(1)", g.sure(1), 2);
        Due.is("sure(0), all rows alike", Told.game("game 5 5 4 4").sure(0), 0);
        Due.is("sure(1), all rows alike", Told.game("game 5 5 4 4").sure(1), 0);
        Due.is("sure(0) of weight 0", Told.game("game 1 1 2 2;weight 0 0 0;win 0 0 1 0;win 0 0 1 1").sure(0), 0);
        // The last row of all is the only one.
        g = Told.game("game 2 1 4 2;win 0 0 3 0;win 0 0 3 1;win 1 0 3 0;win 1 0 3 1");
        Due.is("sure(0), the last row", g.sure(0), 33);
        g.swap();
        Due.is("sure(1), the last row", g.sure(1), 33);
        // Rows 1 and 2 are both sure of it; the least counts.
        g = Told.game("game 1 1 3 2;win 0 0 1 0;win 0 0 1 1;win 0 0 2 0;win 0 0 2 1");
        Due.is("sure(0), the least of two", g.sure(0), 1);
        Sentences.says(21, "NONE without that player");
        for (int bad : Sentences.not(2)) {
            Sentences.refused("sure(" + bad + ")", h -> h.sure(bad), NONE);
        }
        Sentences.refusedBare("sure(0)", h -> h.sure(0));
        Sentences.refusedBare("sure(1)", h -> h.sure(1));
    }

    // Numbers that are no rows of two answers to two questions.
    private static final int[] NO_ROWS = {-1, 2, 9, 12, 20, 22, 99, 100, 101, 110, 1000, 100000, -10, -11, MIN, MAX,
        1000000000, 1410065408};

    private static void play() {
        Sentences.says(22, "What two ROWS are WORTH");
        ApartGames g = Told.game(MIXED);
        Due.is("play(20, 10)", g.play(20, 10), 15);
        Due.is("play(20, 0)", g.play(20, 0), 12);
        Due.is("play(0, 0)", g.play(0, 0), 9);
        Due.is("play(22, 11)", g.play(22, 11), 5);
        Due.is("play(11, 11)", g.play(11, 11), 7);
        g = Told.game("game 5 5 4 4;weight 4 4 9;win 4 4 3 3;win 0 0 3 3");
        Due.is("play(33333, 33333), the last rows", g.play(33333, 33333), 10);
        Due.is("play(30000, 30000)", g.play(30000, 30000), 1);
        Due.is("play(3, 3)", g.play(3, 3), 9);
        Due.is("play(33333, 33334)", g.play(33333, 33334), NONE);
        Due.is("play(40000, 0)", g.play(40000, 0), NONE);
        Due.is("play(0, 100000)", g.play(0, 100000), NONE);
        Sentences.says(22, "NONE without these");
        for (int bad : NO_ROWS) {
            Sentences.refused("play(" + bad + ", 0)", h -> h.play(bad, 0), NONE);
            Due.is("play(0, " + bad + ")", Told.game("game 2 2 3 2").play(0, bad), NONE);
        }
        Due.is("play(0, 22), Ben's own answers", Sentences.rich().play(0, 22), 0);
        Due.is("play(0, 23)", Sentences.rich().play(0, 23), NONE);
        Due.is("play(0, 30)", Sentences.rich().play(0, 30), NONE);
        Sentences.refusedBare("play(0, 0)", h -> h.play(0, 0));
    }

    private static void hangs() {
        Sentences.says(23, "How much hangs on BEN's answer to a QUESTION y, ANN having a ROW: "
                + "the most less the least that can be had there");
        ApartGames g = Told.game(MIXED);
        Due.is("hangs(20, 0)", g.hangs(20, 0), 3);
        Due.is("hangs(20, 1)", g.hangs(20, 1), 10);
        Due.is("hangs(21, 1)", g.hangs(21, 1), 4);
        Due.is("hangs(12, 0), nothing to be had", g.hangs(12, 0), 0);
        Due.is("hangs(0, 0) whatever he answers", Told.game("game 1 1 2 2;odd 0 0;even 0 0").hangs(0, 0), 0);
        g = Told.game("game 1 5 2 4;weight 0 4 9;win 0 4 1 3");
        Due.is("hangs(1, 4) on his last answer", g.hangs(1, 4), 9);
        Due.is("hangs(0, 4)", g.hangs(0, 4), 0);
        g = Told.game("game 5 1 2 2;weight 4 0 9;win 4 0 1 1;win 4 0 0 1;win 4 0 0 0");
        Due.is("hangs(1, 0) by Ann's last question", g.hangs(1, 0), 9);
        Due.is("hangs(0, 0) by Ann's last question", g.hangs(0, 0), 0);
        Sentences.says(23, "NONE without these");
        for (int bad : NO_ROWS) {
            Sentences.refused("hangs(" + bad + ", 0)", h -> h.hangs(bad, 0), NONE);
        }
        for (int bad : Sentences.not(2)) {
            Sentences.refused("hangs(0, " + bad + ")", h -> h.hangs(0, bad), NONE);
        }
        Sentences.refusedBare("hangs(0, 0)", h -> h.hangs(0, 0));
    }

    private static void reply() {
        Sentences.says(24, "The least ROW of a player by which most is WON against a ROW of the other one");
        ApartGames g = Told.game(MIXED);
        Due.is("reply(1, 20)", g.reply(1, 20), 10);
        Due.is("reply(1, 11)", g.reply(1, 11), 1);
        Due.is("reply(0, 10)", g.reply(0, 10), 20);
        Due.is("reply(0, 11)", g.reply(0, 11), 21);
        Due.is("reply(0, 0) where nothing wins", Told.game("game 5 5 4 4").reply(0, 33333), 0);
        Due.is("reply(1, 0) where all wins", Told.game("game 1 2 2 2;even 0 0;odd 0 0;even 0 1;odd 0 1").reply(1, 1), 0);
        g = Told.game("game 1 2 2 4;win 0 0 1 3;win 0 1 1 3;win 0 1 1 2");
        Due.is("reply(1, 1), of two alike the least", g.reply(1, 1), 32);
        Due.is("reply(1, 0)", g.reply(1, 0), 0);
        g.swap();
        Due.is("reply(0, 1), of two alike the least", g.reply(0, 1), 32);
        // By the other one's last question alone, whoever has more of them.
        g = Told.game("game 5 1 2 2;win 4 0 1 1");
        Due.is("reply(1, 1)", g.reply(1, 1), 1);
        Due.is("reply(1, 11110)", g.reply(1, 11110), 0);
        Due.is("reply(0, 1)", g.reply(0, 1), 1);
        g.swap();
        Due.is("reply(0, 1), players exchanged", g.reply(0, 1), 1);
        Due.is("reply(1, 1), players exchanged", g.reply(1, 1), 1);
        Sentences.says(24, "NONE without these");
        for (int bad : Sentences.not(2)) {
            Sentences.refused("reply(" + bad + ", 0)", h -> h.reply(bad, 0), NONE);
        }
        for (int bad : NO_ROWS) {
            Sentences.refused("reply(1, " + bad + ")", h -> h.reply(1, bad), NONE);
            Due.is("reply(0, " + bad + ")", Told.game("game 2 2 3 2").reply(0, bad), NONE);
        }
        // A row is looked at by the other one's answers: 22 is Ben's.
        Due.is("reply(0, 22)", Told.game("game 2 2 2 3").reply(0, 22), 0);
        Due.is("reply(1, 22)", Told.game("game 2 2 2 3").reply(1, 22), NONE);
        Sentences.refusedBare("reply(0, 0)", h -> h.reply(0, 0));
        Sentences.refusedBare("reply(1, 0)", h -> h.reply(1, 0));
    }

    private static void bests() {
        Sentences.says(25, "How many twos of ROWS are WORTH most");
        Due.is("bests()", Told.game(Sentences.CHSH).bests(), 8);
        Due.is("bests() of one", Told.game("game 1 1 2 2;win 0 0 1 1").bests(), 1);
        Due.is("bests() of all", Told.game("game 1 1 2 2;even 0 0;odd 0 0").bests(), 4);
        Due.is("bests() where nothing wins", Told.game("game 5 5 4 4").bests(), 1048576);
        Due.is("bests() of weight 0", Told.game("game 2 1 3 4;weight 0 0 0;weight 1 0 0;even 0 0").bests(), 36);
        Sentences.says(25, "NONE without a GAME");
        Sentences.refusedBare("bests()", ApartGames::bests);
    }

    private static void best() {
        Sentences.says(26, "The k-th two of ROWS that are WORTH most (by ANN's ROW, then BEN's, rising): "
                + "the ROW of a player");
        ApartGames g = Told.game("game 1 2 2 3;alike 0 0;win 0 1 1 2;win 0 1 0 2;win 0 1 0 0");
        int[][] tops = {{0, 0}, {0, 2}, {1, 12}};
        for (int k = 0; k < 3; k++) {
            Due.is("best(" + k + ", 0)", g.best(k, 0), tops[k][0]);
            Due.is("best(" + k + ", 1)", g.best(k, 1), tops[k][1]);
        }
        g = Told.game(Sentences.CHSH);
        int[] ann = {0, 0, 1, 1, 10, 10, 11, 11};
        int[] ben = {0, 1, 0, 10, 1, 11, 10, 11};
        for (int k = 0; k < 8; k++) {
            Due.is("best(" + k + ", 0)", g.best(k, 0), ann[k]);
            Due.is("best(" + k + ", 1)", g.best(k, 1), ben[k]);
        }
        g = Told.game("game 5 5 4 4");
        Due.is("the last one of all, Ann's", g.best(1048575, 0), 33333);
        Due.is("the last one of all, Ben's", g.best(1048575, 1), 33333);
        Due.is("Ann's first row, Ben's last", g.best(1023, 0) * 100000L + g.best(1023, 1), 33333);
        Due.is("Ann's second row, Ben's first", g.best(1024, 0) * 100000L + g.best(1024, 1), 100000);
        Sentences.says(26, "-2: there are not so many");
        Due.is("best(1048576, 0)", g.best(1048576, 0), -2);
        Due.is("best(MAX, 1)", g.best(MAX, 1), -2);
        Due.is("best(8, 0)", Told.game(Sentences.CHSH).best(8, 0), -2);
        Due.is("best(8, 1)", Told.game(Sentences.CHSH).best(8, 1), -2);
        Due.is("best(0, 0) of one", Told.game("game 1 1 2 2;win 0 0 1 1").best(0, 0), 1);
        Sentences.refusedOf(() -> Told.game("game 1 1 2 2;win 0 0 1 1"), "best(1, 1) of one", h -> h.best(1, 1), -2);
    }

    private static void bestWithout() {
        Sentences.says(26, "NONE without these (k below 0, too)");
        for (int bad : Sentences.not(2)) {
            Sentences.refused("best(0, " + bad + ")", h -> h.best(0, bad), NONE);
        }
        for (int bad : new int[] {-1, -2, MIN}) {
            Sentences.refused("best(" + bad + ", 0)", h -> h.best(bad, 0), NONE);
            Sentences.refused("best(" + bad + ", 1)", h -> h.best(bad, 1), NONE);
        }
        Sentences.refusedBare("best(0, 0)", h -> h.best(0, 0));
        Sentences.refusedBare("best(0, 1)", h -> h.best(0, 1));
    }

    private static void lost() {
        Sentences.says(27, "By how many of these twos of ROWS x, y is LOST");
        ApartGames g = Told.game(Sentences.CHSH);
        for (int i = 0; i < 4; i++) {
            Due.is("lost(" + i / 2 + ", " + i % 2 + ")", g.lost(i / 2, i % 2), 2);
        }
        g = Told.game("game 1 2 2 3;alike 0 0;win 0 1 1 2;win 0 1 0 2;win 0 1 0 0;weight 0 1 0");
        Due.is("lost(0, 0), by none", g.lost(0, 0), 0);
        Due.is("lost(0, 1), of weight 0", g.lost(0, 1), 3);
        g = Told.game("game 5 5 4 4");
        Due.is("lost(4, 4), by all", g.lost(4, 4), 1048576);
        Due.is("lost(0, 0), by all", g.lost(0, 0), 1048576);
        g = Told.game("game 2 2 2 3;weight 0 0 0;win 0 0 1 2");
        Due.is("lost(0, 0), by all but 1 of 6", g.lost(0, 0), 30);
        Due.is("lost(1, 0), by all", g.lost(1, 0), 36);
        Sentences.says(27, "NONE without these");
        for (int bad : Sentences.not(2)) {
            Sentences.refused("lost(" + bad + ", 0)", h -> h.lost(bad, 0), NONE);
            Sentences.refused("lost(0, " + bad + ")", h -> h.lost(0, bad), NONE);
        }
        Sentences.refusedBare("lost(0, 0)", h -> h.lost(0, 0));
    }

    private static void mean(String text, int above, int below) {
        ApartGames g = Told.game(text);
        Due.is("mean(0) of " + text, g.mean(0), above);
        Due.is("mean(1) of " + text, g.mean(1), below);
    }

    private static void mean() {
        Sentences.says(28, "What all twos of ROWS are WORTH on the mean, in least terms: what 0: above, 1: below "
                + "(0 is 0 by 1)");
        mean(Sentences.CHSH, 2, 1);
        mean("game 1 2 3 4;weight 0 0 2;win 0 0 0 0;win 0 1 0 0;win 0 1 0 1", 1, 3);
        mean("game 1 1 4 4;weight 0 0 9;win 0 0 0 0", 9, 16);
        mean("game 1 1 3 3;weight 0 0 9;win 0 0 0 0", 1, 1);
        mean("game 1 1 3 3;weight 0 0 6;win 0 0 0 0", 2, 3);
        mean("game 1 1 2 3;weight 0 0 5;even 0 0;odd 0 0", 5, 1);
        mean("game 3 2 2 2;weight 2 0 5;weight 0 1 3;weight 2 1 7;win 2 1 0 0", 7, 4);
        mean("game 2 3 2 2;weight 0 2 5;weight 1 0 3;weight 1 2 7;win 1 2 0 0", 7, 4);
        mean("game 1 1 2 2", 0, 1);
        mean("game 5 5 4 3", 0, 1);
        mean("game 1 1 2 2;weight 0 0 0;even 0 0", 0, 1);
        Sentences.says(28, "NONE for others, without a GAME");
        for (int bad : Sentences.not(2)) {
            Sentences.refused("mean(" + bad + ")", h -> h.mean(bad), NONE);
        }
        Sentences.refusedBare("mean(0)", h -> h.mean(0));
        Sentences.refusedBare("mean(1)", h -> h.mean(1));
    }

    private static void talk(String text, int most, int told) {
        ApartGames g = Told.game(text);
        Due.is("talk(0) of " + text, g.talk(0), most);
        Due.is("talk(1) of " + text, g.talk(1), told);
    }

    private static void talk() {
        Sentences.says(29, "If ANN may tell BEN 0 or 1 by her QUESTION (0 of QUESTION 0), what 0: the most that could be "
                + "had, 1: for which QUESTIONS she tells 1 then, as bits, of several the least");
        talk(Sentences.CHSH, 4, 2);
        talk("game 1 1 2 2;even 0 0", 1, 0);
        // Which of her questions is another one than the rest: the last one, the middle one, the first one.
        talk("game 3 1 2 2;win 0 0 0 0;win 1 0 0 0;win 2 0 0 1", 3, 4);
        talk("game 3 1 2 2;win 0 0 0 0;win 1 0 0 1;win 2 0 0 0", 3, 2);
        talk("game 3 1 2 2;win 0 0 0 1;win 1 0 0 0;win 2 0 0 0", 3, 6);
        talk("game 5 1 2 2;win 0 0 0 1;win 1 0 0 0;win 2 0 0 0;win 3 0 0 0;win 4 0 0 0", 5, 30);
        // Nothing to tell; and several ways to tell two of three from each other.
        talk("game 5 1 2 2", 0, 0);
        talk("game 3 1 2 3;win 0 0 0 0;win 1 0 0 1;win 2 0 0 2", 2, 2);
        talk("game 3 1 2 3;win 0 0 0 0;win 1 0 0 1;win 2 0 0 2;weight 2 0 3;weight 0 0 2", 5, 4);
        Sentences.says(29, "NONE for others, without a GAME");
        for (int bad : Sentences.not(2)) {
            Sentences.refused("talk(" + bad + ")", h -> h.talk(bad), NONE);
        }
        Sentences.refusedBare("talk(0)", h -> h.talk(0));
        Sentences.refusedBare("talk(1)", h -> h.talk(1));
    }
}
