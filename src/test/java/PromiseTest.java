/** The promises one by one, with answers worked out by hand. */
public final class PromiseTest {
    private static final int NONE = ApartGames.NONE;
    /** Four questions' twos, all to be answered alike but the last one: at the most 3 of 4. */
    private static final String CHSH = "game 2 2 2 2;even 0 0;even 0 1;even 1 0;odd 1 1";

    private PromiseTest() {
    }

    public static void main(String[] args) {
        newObject();
        tape();
        texts();
        faults();
        weighDecideParity();
        exchangeSwap();
        dropCopy();
        boxMix();
        draw();
        undo();
        shelves();
        worthAndSure();
        playHangsReply();
        bests();
        meanTalk();
        withoutCut();
        lesserSame();
        climb();
        parts();
        parity();
        twice();
        product();
        boxes();
        symmetries();
        letter();
        counts();
        Due.end("PromiseTest");
    }

    // 1, and all of the others without a game
    private static void newObject() {
        ApartGames g = new ApartGames();
        Due.is("NONE", NONE, -1);
        for (int what = 0; what < 8; what++) {
            Due.is("count(" + what + ") at first", g.count(what), 0);
        }
        Due.is("swap() at first", g.swap(), NONE);
        Due.is("draw(1) at first", g.draw(1), NONE);
        Due.is("undo() at first", g.undo(), NONE);
        Due.is("worth(1) at first", g.worth(1), NONE);
        Due.is("sure(1) at first", g.sure(1), NONE);
        Due.is("play(0, 0) at first", g.play(0, 0), NONE);
        Due.is("bests() at first", g.bests(), NONE);
        Due.is("best(0, 0) at first", g.best(0, 0), NONE);
        Due.is("mean(0) at first", g.mean(0), NONE);
        Due.is("talk(0) at first", g.talk(0), NONE);
        Due.is("climb(0, 0, 0) at first", g.climb(0, 0, 0), NONE);
        Due.is("parts(0) at first", g.parts(0), NONE);
        Due.is("sign(0, 0) at first", g.sign(0, 0), -2);
        Due.is("bias(0) at first", g.bias(0), NONE);
        Due.is("twice(0) at first", g.twice(0), NONE);
        Due.is("product() at first", g.product(), NONE);
        Due.is("boxed(0) at first", g.boxed(0), NONE);
        Due.is("symmetries() at first", g.symmetries(), NONE);
        Due.is("letter(NONE) at first", g.letter(NONE), 0);
        Due.is("letter(0) at first", g.letter(0), -2);
        Due.is("back(0) at first", g.back(0), -2);
    }

    // 2, 3, and count(6)
    private static void tape() {
        ApartGames g = new ApartGames();
        for (int n = 20; n <= 400; n += 20) {
            Due.is("feed() to " + n, g.feed(1, 2, 3, 4, 5), n);
        }
        Due.is("feed() above 400", g.feed(1, 2, 3, 4, 5), NONE);
        Due.is("count(6) of a full tape", g.count(6), 400);
        Due.is("end(401)", g.end(401), NONE);
        Due.is("end(-1)", g.end(-1), NONE);
        Due.is("end(400)", g.end(400), 400);
        Due.is("end(381)", g.end(381), 381);
        Due.is("feed() behind 381", g.feed(1, 2, 3, 4, 5), NONE);
        Due.is("end(380)", g.end(380), 380);
        Due.is("feed() behind 380", g.feed(1, 2, 3, 4, 5), 400);
        Due.is("end(0)", g.end(0), 0);
        Due.is("end(1) of an empty tape", g.end(1), NONE);
        Due.is("tell() of an empty tape", g.tell(), -3);
        // The highest byte first: "game", " 1 1", " 2 2" and blanks.
        g.feed(0x67616d65, 0x20312031, 0x20322032, 0x20202020, 0x20202020);
        Due.is("tell() of bytes in order", g.tell(), 1);
        Due.is("count(6) behind tell()", g.count(6), 0);
        g.feed(0xffffffff, 0, 0, 0, 0);
        Due.is("tell() of bytes 255", g.tell(), -3);
    }

    // 4: what texts mean
    private static void texts() {
        ApartGames g = Told.game("  game 3 1 2 4 ;weight 2 0 5; weight 2 0 7;win 0 0 1 3;box 1 0 0 2 12;box 1 0 0 2 3 ");
        Due.is("questions of Ann", g.count(0), 3);
        Due.is("questions of Ben", g.count(1), 1);
        Due.is("answers of Ann", g.count(2), 2);
        Due.is("answers of Ben", g.count(3), 4);
        Due.is("the last weight counts", g.weight(2, 0), 7);
        Due.is("weight without", g.weight(0, 0), 1);
        Due.is("wins told", g.wins(0, 0, 1, 3), 1);
        Due.is("wins not told", g.wins(0, 0, 1, 2), 0);
        Due.is("the last box counts", g.marginal(0, 1, 0, 0), 3);
        g = Told.game("game3 3 3 3;even0 0;odd0 1;alike0 2;unlike1 0;odd 1 1;win 1 1 0 0;even 1 2;odd 1 2");
        int[][] winning = {{5, 4, 3}, {6, 5, 9}, {0, 0, 0}};
        for (int x = 0; x < 3; x++) {
            for (int y = 0; y < 3; y++) {
                int found = 0;
                for (int a = 0; a < 3; a++) {
                    for (int b = 0; b < 3; b++) {
                        found += g.wins(x, y, a, b);
                    }
                }
                Due.is("how many win at " + x + ", " + y, found, winning[x][y]);
            }
        }
        Due.is("even: 0, 2", g.wins(0, 0, 0, 2), 1);
        Due.is("odd: 2, 1", g.wins(0, 1, 2, 1), 1);
        Due.is("alike: 0, 2", g.wins(0, 2, 0, 2), 0);
        Due.is("unlike: 0, 2", g.wins(1, 0, 0, 2), 1);
        Due.is("all that are told win", g.wins(1, 1, 0, 0), 1);
        Due.is("leading noughts", Told.tell(g, "game 0001 000000000000000000005 02 4;box 0 4 1 3 0012"), 1);
        Due.is("box told with noughts", g.marginal(1, 4, 3, 0), 12);
    }

    private static void fault(String text, int place, int kind) {
        ApartGames g = Told.game(CHSH);
        g.decide(0, 0, 0, 1);
        Due.is("tell() of '" + text + "'", Told.tell(g, text), -2 - (8 * place + kind));
        Due.is("questions behind a fault", g.count(0), 2);
        Due.is("wins behind a fault", g.count(4), 9);
        Due.is("acts behind a fault", g.count(5), 1);
        Due.is("tape behind a fault", g.count(6), 0);
    }

    // 4: faults; the place is where a word or number begins, or behind the last byte
    private static void faults() {
        fault("", 0, 1);
        fault("   ", 3, 1);
        fault("gam", 0, 1);
        fault(" games 1 1 2 2", 1, 1);
        fault("Game 1 1 2 2", 0, 1);
        fault("gamez 1 1 2 2", 0, 1);
        fault("gamea1 1 2 2", 0, 1);
        fault("game{1 1 2 2", 4, 1);
        fault("game`1 1 2 2", 4, 1);
        fault("game /1 1 2 2", 5, 1);
        fault("game :1 1 2 2", 5, 1);
        fault("1 1 2 2", 0, 1);
        fault("game", 4, 1);
        fault("game 1 1 2", 10, 1);
        fault("game 1 1 2  ", 12, 1);
        fault("game x 1 2 2", 5, 1);
        fault("game -1 1 2 2", 5, 1);
        fault("game 0 9 9 9", 5, 2);
        fault("game 6 1 2 2", 5, 2);
        fault("game  12 1 2 2", 6, 2);
        fault("game 99999999999999999999 1 2 2", 5, 2);
        fault("game 4294967297 1 2 2", 5, 2);
        fault("game 1 0 2 2", 7, 2);
        fault("game 1 1 1 2", 9, 2);
        fault("game 1 1 2 5", 11, 2);
        fault("game 1 1 2 2 2", 13, 1);
        fault("game 1 1 2 2win 0 0 0 0", 12, 1);
        fault("game 1 1 2 2;", 13, 1);
        fault("game 1 1 2 2; ;even 0 0", 14, 1);
        fault("game 1 1 2 2;evens 0 0", 13, 1);
        fault("game 1 1 2 2;eve 0 0", 13, 1);
        fault("game 1 1 2 2;game 1 1 2 2", 13, 1);
        fault("game 1 1 2 2;even 0", 19, 1);
        fault("game 1 1 2 2;even 1 0", 18, 2);
        fault("game 1 1 2 2;even 0 1", 20, 2);
        fault("game 1 1 2 2;even 0 0 0", 22, 1);
        fault("game 1 1 2 2;win 0 0 2 0", 21, 2);
        fault("game 1 1 2 2;win 0 0 0 2", 23, 2);
        fault("game 1 1 2 2;win 0 0 0", 22, 1);
        fault("game 1 1 2 2;weight 0 0", 23, 1);
        fault("game 1 1 2 2;weight 0 0 10", 24, 2);
        fault("game 1 1 2 2;box 0 0 0 0", 24, 1);
        fault("game 1 1 2 2;box 0 0 0 0 13", 25, 2);
        fault("game 1 1 2 2,", 12, 1);
        fault("game\t1 1 2 2", 4, 1);
        fault("game 1 1 2 2;even 0 0;x 9", 22, 1);
    }

    // 5 to 7, 18, 19
    private static void weighDecideParity() {
        ApartGames g = Told.game(CHSH);
        Due.is("weigh(0, 1, 9)", g.weigh(0, 1, 9), 1);
        Due.is("weigh(0, 1, 9) again", g.weigh(0, 1, 9), -2);
        Due.is("weigh(0, 1, 10)", g.weigh(0, 1, 10), NONE);
        Due.is("weigh(0, 1, -1)", g.weigh(0, 1, -1), NONE);
        Due.is("weigh(2, 0, 1)", g.weigh(2, 0, 1), NONE);
        Due.is("weigh(0, 2, 1)", g.weigh(0, 2, 1), NONE);
        Due.is("weigh(0, 1, 0)", g.weigh(0, 1, 0), 9);
        Due.is("weight(0, 1)", g.weight(0, 1), 0);
        Due.is("weight(1, 0)", g.weight(1, 0), 1);
        Due.is("weight(-1, 0)", g.weight(-1, 0), NONE);
        Due.is("weight(0, 2)", g.weight(0, 2), NONE);
        Due.is("acts", g.count(5), 2);
        Due.is("decide(1, 0, 0, 1)", g.decide(1, 0, 0, 1), 1);
        Due.is("decide(1, 0, 0, 1) again", g.decide(1, 0, 0, 1), 0);
        Due.is("decide(1, 0, 2, 1)", g.decide(1, 0, 2, 1), NONE);
        Due.is("decide(1, 0, 0, -1)", g.decide(1, 0, 0, -1), NONE);
        Due.is("wins(1, 0, 0, 1)", g.wins(1, 0, 0, 1), 0);
        Due.is("wins(1, 0, 1, 1)", g.wins(1, 0, 1, 1), 1);
        Due.is("wins(0, 0, 0, 2)", g.wins(0, 0, 0, 2), NONE);
        Due.is("parity(1, 1, 1)", g.parity(1, 1, 1), -2);
        Due.is("parity(1, 1, 2)", g.parity(1, 1, 2), NONE);
        Due.is("parity(1, 1, -1)", g.parity(1, 1, -1), NONE);
        Due.is("parity(1, 2, 0)", g.parity(1, 2, 0), NONE);
        Due.is("parity(1, 1, 0)", g.parity(1, 1, 0), 1);
        Due.is("wins(1, 1, 0, 1)", g.wins(1, 1, 0, 1), 0);
        Due.is("wins(1, 1, 1, 1)", g.wins(1, 1, 1, 1), 1);
        Due.is("acts, no more", g.count(5), 5);
        g = Told.game("game 1 1 3 4");
        Due.is("parity(0, 0, 1) of more answers", g.parity(0, 0, 1), 1);
        Due.is("odd ones of 3 by 4", g.count(4), 6);
        g.decide(0, 0, 2, 2);
        Due.is("parity(0, 0, 1) takes away, too", g.parity(0, 0, 1), 1);
        Due.is("odd ones again", g.count(4), 6);
    }

    // 8, 9
    private static void exchangeSwap() {
        ApartGames g = Told.game("game 1 2 2 3;win 0 0 0 2;box 0 0 0 2 5;win 0 1 1 2;weight 0 1 4");
        Due.is("exchange(1, 0, 2, 2)", g.exchange(1, 0, 2, 2), NONE);
        Due.is("exchange(0, 1, 0, 1)", g.exchange(0, 1, 0, 1), NONE);
        Due.is("exchange(0, 0, 0, 2)", g.exchange(0, 0, 0, 2), NONE);
        Due.is("exchange(2, 0, 0, 1)", g.exchange(2, 0, 0, 1), NONE);
        Due.is("exchange(1, 0, 0, 2)", g.exchange(1, 0, 0, 2), 1);
        Due.is("Ben's answer", g.wins(0, 0, 0, 0), 1);
        Due.is("Ben's old answer", g.wins(0, 0, 0, 2), 0);
        Due.is("the other question stays", g.wins(0, 1, 1, 2), 1);
        Due.is("the box goes along", g.marginal(1, 0, 0, 0), 5);
        Due.is("exchange(0, 0, 0, 1)", g.exchange(0, 0, 0, 1), 1);
        Due.is("Ann's answer at both", g.wins(0, 0, 1, 0) + g.wins(0, 1, 0, 2), 2);
        Due.is("swap()", g.swap(), 1);
        Due.is("text behind swap()", Told.letters(g).equals(
                "game 2 1 3 2;weight 1 0 4;win 0 0 0 1;win 1 0 2 0;box 0 0 0 1 5") ? 1 : 0, 1);
        Due.is("acts", g.count(5), 3);
    }

    // 10, 11
    private static void dropCopy() {
        ApartGames g = Told.game("game 3 1 2 2;weight 0 0 2;weight 1 0 3;weight 2 0 4;win 2 0 1 0;box 2 0 1 1 6");
        Due.is("drop(1, 0)", g.drop(1, 0), -2);
        Due.is("drop(0, 3)", g.drop(0, 3), NONE);
        Due.is("drop(2, 0)", g.drop(2, 0), NONE);
        Due.is("drop(1, 1) ahead of the only one", g.drop(1, 1), NONE);
        Due.is("copy(0, 2)", g.copy(0, 2), 4);
        Due.is("drop(0, 1)", g.drop(0, 1), 3);
        Due.is("text behind copy(), drop()", Told.letters(g).equals("game 3 1 2 2;weight 0 0 2;weight 1 0 4;"
                + "weight 2 0 4;win 1 0 1 0;win 2 0 1 0;box 1 0 1 1 6;box 2 0 1 1 6") ? 1 : 0, 1);
        Due.is("copy(1, 0)", g.copy(1, 0), 2);
        Due.is("copied for Ben", g.wins(2, 1, 1, 0), 1);
        Due.is("copied weight for Ben", g.weight(0, 1), 2);
        Due.is("copied box for Ben", g.marginal(1, 1, 1, 2), 6);
        Due.is("copy(0, 3)", g.copy(0, 3), NONE);
        Due.is("copy(-1, 0)", g.copy(-1, 0), NONE);
        Due.is("copy(0, 0)", g.copy(0, 0), 4);
        Due.is("copy(0, 0) again", g.copy(0, 0), 5);
        Due.is("copy(0, 0) of 5", g.copy(0, 0), -2);
        Due.is("copy(0, 5) of 5", g.copy(0, 5), NONE);
        Due.is("acts", g.count(5), 5);
        for (int left = 4; left > 0; left--) {
            Due.is("drop(0, 0) to " + left, g.drop(0, 0), left);
        }
        Due.is("drop(0, 0) of the only one", g.drop(0, 0), -2);
    }

    // 12, 13, 41
    private static void boxMix() {
        ApartGames g = Told.game("game 2 1 2 3");
        Due.is("box(1, 0, 1, 2, 12)", g.box(1, 0, 1, 2, 12), 0);
        Due.is("box(1, 0, 1, 2, 12) again", g.box(1, 0, 1, 2, 12), -2);
        Due.is("box(1, 0, 1, 2, 13)", g.box(1, 0, 1, 2, 13), NONE);
        Due.is("box(1, 0, 1, 2, -1)", g.box(1, 0, 1, 2, -1), NONE);
        Due.is("box(1, 0, 1, 3, 1)", g.box(1, 0, 1, 3, 1), NONE);
        Due.is("box(1, 0, 1, 2, 7)", g.box(1, 0, 1, 2, 7), 12);
        Due.is("mix(1, 2, 6)", g.mix(1, 2, 6), -2);
        Due.is("nothing happens", g.marginal(0, 0, 0, 0), 0);
        Due.is("mix(1, 2, 5)", g.mix(1, 2, 5), 1);
        Due.is("mixed at 0, 0", g.marginal(0, 0, 0, 0), 5);
        Due.is("mixed at 1, 0", g.marginal(0, 1, 1, 0), 12);
        Due.is("mix(1, 2, 1)", g.mix(1, 2, 1), -2);
        Due.is("mix(10, 0, 12)", g.mix(10, 0, 12), 1);
        Due.is("mix(10, 0, 0)", g.mix(10, 0, 0), NONE);
        Due.is("mix(10, 0, 13)", g.mix(10, 0, 13), NONE);
        Due.is("mix(20, 0, 1)", g.mix(20, 0, 1), NONE);
        Due.is("mix(10, 3, 1)", g.mix(10, 3, 1), NONE);
        Due.is("acts", g.count(5), 4);
        Due.is("marginal(1, 0, 0, 1)", g.marginal(1, 0, 0, 1), 12);
        Due.is("marginal(1, 0, 2, 0)", g.marginal(1, 0, 2, 0), 5);
        Due.is("marginal(1, 0, 3, 0)", g.marginal(1, 0, 3, 0), NONE);
        Due.is("marginal(1, 1, 0, 0)", g.marginal(1, 1, 0, 0), NONE);
        Due.is("marginal(1, 0, 0, 2)", g.marginal(1, 0, 0, 2), NONE);
        Due.is("marginal(0, 0, 0, 1)", g.marginal(0, 0, 0, 1), NONE);
        Due.is("marginal(2, 0, 0, 0)", g.marginal(2, 0, 0, 0), NONE);
    }

    // 14
    private static void draw() {
        ApartGames g = Told.game("game 1 1 2 2;box 0 0 1 1 4");
        // 12345 first: 12345 >>> 16 is 0, the weight 1; then 0, 0, 1, 0 by hand.
        Due.is("draw(0)", g.draw(0), 1);
        Due.is("drawn weight", g.weight(0, 0), 1);
        Due.is("drawn win", g.wins(0, 0, 1, 0), 1);
        Due.is("the box stays", g.marginal(0, 0, 1, 0), 4);
        Due.is("draw() is an act", g.count(5), 1);
        g = Told.game("game 2 1 2 2");
        int state = -77;
        g.draw(state);
        for (int x = 0; x < 2; x++) {
            state = state * 1103515245 + 12345;
            Due.is("weight drawn at " + x, g.weight(x, 0), (state >>> 16) % 4 + 1);
            for (int i = 0; i < 4; i++) {
                state = state * 1103515245 + 12345;
                Due.is("win drawn at " + x, g.wins(x, 0, i / 2, i % 2), (state >>> 16) % 2);
            }
        }
    }

    // 15
    private static void undo() {
        ApartGames g = Told.game(CHSH);
        String[] texts = new String[13];
        for (int i = 0; i < 12; i++) {
            texts[i] = Told.letters(g);
            g.weigh(0, 0, i % 2 == 0 ? 5 : 6);
            Due.is("acts that can be undone", g.count(5), Math.min(i + 1, 10));
        }
        for (int i = 9; i >= 0; i--) {
            Due.is("undo() to " + i, g.undo(), i);
            Due.is("text undone", Told.letters(g).equals(texts[i + 2]) ? 1 : 0, 1);
        }
        Due.is("undo() of none", g.undo(), NONE);
        String old = Told.letters(g);
        g.box(0, 1, 0, 1, 3);
        g.mix(0, 0, 2);
        g.decide(0, 0, 0, 0);
        g.parity(0, 0, 1);
        g.exchange(1, 0, 0, 1);
        g.copy(0, 1);
        g.drop(1, 0);
        g.swap();
        g.draw(9);
        for (int i = 8; i >= 0; i--) {
            Due.is("undo() of each act", g.undo(), i);
        }
        Due.is("all undone", Told.letters(g).equals(old) ? 1 : 0, 1);
        g.swap();
        Told.tell(g, CHSH);
        Due.is("undo() behind tell()", g.undo(), NONE);
    }

    // 16, 17
    private static void shelves() {
        ApartGames g = new ApartGames();
        Due.is("keep(1) without a game", g.keep(1), 0);
        Due.is("count(7)", g.count(7), 2);
        Told.tell(g, "game 3 2 2 2;box 0 0 0 0 5");
        Due.is("keep(0)", g.keep(0), 3);
        Due.is("count(7)", g.count(7), 3);
        Due.is("keep(-1)", g.keep(-1), NONE);
        Due.is("keep(2)", g.keep(2), NONE);
        Due.is("back(-1)", g.back(-1), NONE);
        Due.is("back(2)", g.back(2), NONE);
        g.weigh(0, 0, 4);
        Told.lay(g, "game");
        Due.is("back(0)", g.back(0), 3);
        Due.is("the tape stays", g.count(6), 4);
        Due.is("acts behind back()", g.count(5), 0);
        Due.is("weight behind back()", g.weight(0, 0), 1);
        g.box(0, 0, 0, 0, 6);
        Due.is("back(0) again", g.back(0), 3);
        Due.is("the shelf is as it was", g.marginal(0, 0, 0, 0), 5);
        g.weigh(0, 0, 4);
        Due.is("keep() undoes nothing", g.keep(0), 3);
        Due.is("acts behind keep()", g.count(5), 1);
        g.end(0);
        Told.tell(g, CHSH);
        Due.is("shelves behind tell()", g.count(7), 3);
        Due.is("back(1), no game", g.back(1), 0);
        Due.is("no game", g.worth(0), NONE);
        Due.is("back(0)", g.back(0), 3);
        Due.is("weight kept", g.weight(0, 0), 4);
    }

    // 20, 21
    private static void worthAndSure() {
        ApartGames g = Told.game(CHSH);
        Due.is("worth(0)", g.worth(0), 3);
        Due.is("worth(1)", g.worth(1), 4);
        Due.is("worth(2)", g.worth(2), 1);
        Due.is("worth(-1)", g.worth(-1), NONE);
        Due.is("worth(5)", g.worth(5), NONE);
        Due.is("sure(2)", g.sure(2), NONE);
        Due.is("sure(-1)", g.sure(-1), NONE);
        // Ann's 1 to question 0 wins for sure; Ben is sure of nothing but by 2.
        g = Told.game("game 2 1 2 3;weight 0 0 3;weight 1 0 2;win 0 0 1 0;win 0 0 1 1;win 0 0 1 2;win 1 0 0 2;"
                + "win 1 0 1 2");
        Due.is("worth(3)", g.worth(3), 3);
        Due.is("worth(4)", g.worth(4), 2);
        Due.is("sure(0)", g.sure(0), 10);
        Due.is("sure(1)", g.sure(1), 2);
        Due.is("worth(0)", g.worth(0), 5);
        Due.is("worth(2)", g.worth(2), 0);
    }

    // 22 to 24
    private static void playHangsReply() {
        ApartGames g = Told.game("game 2 2 3 2;weight 0 0 5;weight 1 0 2;weight 0 1 3;weight 1 1 7;"
                + "win 0 0 2 1;win 1 0 0 0;win 0 1 2 0;win 1 1 0 0;win 1 1 1 1");
        Due.is("play(20, 10)", g.play(20, 10), 15);
        Due.is("play(20, 0)", g.play(20, 0), 12);
        Due.is("play(0, 0)", g.play(0, 0), 9);
        Due.is("play(3, 0)", g.play(3, 0), NONE);
        Due.is("play(0, 2)", g.play(0, 2), NONE);
        Due.is("play(100, 0)", g.play(100, 0), NONE);
        Due.is("play(0, -1)", g.play(0, -1), NONE);
        Due.is("hangs(20, 0)", g.hangs(20, 0), 3);
        Due.is("hangs(20, 1)", g.hangs(20, 1), 10);
        Due.is("hangs(21, 1)", g.hangs(21, 1), 4);
        Due.is("hangs(20, 2)", g.hangs(20, 2), NONE);
        Due.is("hangs(30, 0)", g.hangs(30, 0), NONE);
        Due.is("reply(1, 20)", g.reply(1, 20), 10);
        Due.is("reply(1, 11)", g.reply(1, 11), 1);
        Due.is("reply(0, 10)", g.reply(0, 10), 20);
        Due.is("reply(0, 11)", g.reply(0, 11), 21);
        Due.is("reply(0, 2)", g.reply(0, 2), NONE);
        Due.is("reply(1, 30)", g.reply(1, 30), NONE);
        Due.is("reply(2, 0)", g.reply(2, 0), NONE);
        Due.is("reply(-1, 0)", g.reply(-1, 0), NONE);
    }

    // 25 to 27
    private static void bests() {
        ApartGames g = Told.game("game 1 2 2 3;alike 0 0;win 0 1 1 2;win 0 1 0 2;win 0 1 0 0");
        // Ann 0: Ben 0 and 0 or 2; Ann 1: Ben 1 and 2.
        Due.is("bests()", g.bests(), 3);
        int[][] tops = {{0, 0}, {0, 2}, {1, 12}};
        for (int k = 0; k < 3; k++) {
            Due.is("best(" + k + ", 0)", g.best(k, 0), tops[k][0]);
            Due.is("best(" + k + ", 1)", g.best(k, 1), tops[k][1]);
        }
        Due.is("best(3, 0)", g.best(3, 0), -2);
        Due.is("best(3, 2)", g.best(3, 2), NONE);
        Due.is("best(-1, 0)", g.best(-1, 0), NONE);
        Due.is("lost(0, 0)", g.lost(0, 0), 0);
        g.weigh(0, 1, 0);
        // Now what is given to question 1 does not matter, but it may lose.
        Due.is("bests() then", g.bests(), 6);
        Due.is("lost(0, 1)", g.lost(0, 1), 3);
        Due.is("lost(0, 2)", g.lost(0, 2), NONE);
        Due.is("lost(-1, 0)", g.lost(-1, 0), NONE);
        g = Told.game("game 5 5 4 4");
        Due.is("bests() of all rows", g.bests(), 1048576);
        Due.is("the last best of all, Ann's", g.best(1048575, 0), 33333);
        Due.is("the last best of all, Ben's", g.best(1048575, 1), 33333);
        Due.is("best of place 1025", g.best(1025, 0) * 100000L + g.best(1025, 1), 100001);
        Due.is("one more", g.best(1048576, 1), -2);
        Due.is("the greatest k", g.best(Integer.MAX_VALUE, 1), -2);
        Due.is("lost(4, 4) of all", g.lost(4, 4), 1048576);
    }

    // 28, 29
    private static void meanTalk() {
        ApartGames g = Told.game("game 1 2 3 4;weight 0 0 2;win 0 0 0 0;win 0 1 0 0;win 0 1 0 1");
        // 2 / 12 and 2 / 12.
        Due.is("mean(0)", g.mean(0), 1);
        Due.is("mean(1)", g.mean(1), 3);
        Due.is("mean(2)", g.mean(2), NONE);
        Due.is("mean(-1)", g.mean(-1), NONE);
        g = Told.game("game 1 1 3 4");
        Due.is("mean(0) of nothing", g.mean(0), 0);
        Due.is("mean(1) of nothing", g.mean(1), 1);
        // Three questions, of which Ben must know 1 from the others.
        g = Told.game("game 3 1 2 2;win 0 0 0 0;win 1 0 0 1;win 2 0 0 0");
        Due.is("talk(0)", g.talk(0), 3);
        Due.is("talk(1)", g.talk(1), 2);
        Due.is("talk(2)", g.talk(2), NONE);
        Due.is("talk(-1)", g.talk(-1), NONE);
        g = Told.game("game 3 1 2 3;win 0 0 0 0;win 1 0 0 1;win 2 0 0 2");
        Due.is("talk(0) of three to know", g.talk(0), 2);
        Due.is("talk(1), the least", g.talk(1), 2);
        Due.is("talk(1) of one question", Told.game("game 1 1 2 2").talk(1), 0);
    }

    // 30, 34
    private static void withoutCut() {
        ApartGames g = Told.game(CHSH);
        g.weigh(1, 1, 5);
        Due.is("worth(0)", g.worth(0), 7);
        Due.is("without(0, 0)", g.without(0, 0), 6);
        Due.is("without(0, 1)", g.without(0, 1), 2);
        Due.is("without(1, 1)", g.without(1, 1), 2);
        Due.is("without(1, 2)", g.without(1, 2), NONE);
        Due.is("without(2, 0)", g.without(2, 0), NONE);
        Due.is("cut(1, 1)", g.cut(1, 1), 3);
        Due.is("cut(0, 1)", g.cut(0, 1), 7);
        Due.is("cut(2, 0)", g.cut(2, 0), NONE);
        Due.is("cut(0, -1)", g.cut(0, -1), NONE);
        Due.is("nothing is gone", g.worth(1), 8);
        Due.is("without the only one", Told.game("game 1 1 2 2;even 0 0").without(0, 0), 0);
    }

    // 31, 32
    private static void lesserSame() {
        ApartGames g = Told.game("game 1 2 2 3;win 0 0 0 0;win 0 0 0 2;win 0 0 1 2;win 0 1 1 1;weight 0 1 0");
        Due.is("lesser(0, 0, 1, 0)", g.lesser(0, 0, 1, 0), 1);
        Due.is("lesser(0, 0, 0, 1)", g.lesser(0, 0, 0, 1), 0);
        Due.is("lesser(1, 0, 1, 0)", g.lesser(1, 0, 1, 0), 1);
        Due.is("lesser(1, 0, 0, 1)", g.lesser(1, 0, 0, 1), 0);
        Due.is("lesser(1, 0, 0, 2)", g.lesser(1, 0, 0, 2), 1);
        Due.is("lesser(1, 1, 1, 0) by weight 0", g.lesser(1, 1, 1, 0), 1);
        g.weigh(0, 1, 1);
        Due.is("lesser(0, 0, 1, 0) by weight 1", g.lesser(0, 0, 1, 0), 0);
        Due.is("lesser(0, 0, 1, 1)", g.lesser(0, 0, 1, 1), NONE);
        Due.is("lesser(0, 0, 1, 2)", g.lesser(0, 0, 1, 2), NONE);
        Due.is("lesser(0, 1, 1, 0)", g.lesser(0, 1, 1, 0), NONE);
        Due.is("lesser(2, 0, 1, 0)", g.lesser(2, 0, 1, 0), NONE);
        g.copy(1, 0);
        Due.is("same(1, 0, 2)", g.same(1, 0, 2), 1);
        Due.is("same(1, 2, 1)", g.same(1, 2, 1), 0);
        Due.is("same(1, 0, 0)", g.same(1, 0, 0), NONE);
        Due.is("same(1, 0, 3)", g.same(1, 0, 3), NONE);
        Due.is("same(0, 0, 1)", g.same(0, 0, 1), NONE);
        Due.is("same(2, 0, 1)", g.same(2, 0, 1), NONE);
        g.box(0, 2, 1, 1, 1);
        Due.is("same(1, 0, 2) by boxes", g.same(1, 0, 2), 0);
        g.undo();
        g.weigh(0, 0, 2);
        Due.is("same(1, 0, 2) by weights", g.same(1, 0, 2), 0);
        g.undo();
        g.decide(0, 2, 1, 1);
        Due.is("same(1, 0, 2) by wins", g.same(1, 0, 2), 0);
        g.undo();
        g.swap();
        Due.is("same(0, 0, 2)", g.same(0, 0, 2), 1);
    }

    // 33
    private static void climb() {
        // Ben takes 100 for 1, Ann takes 1 for 2, Ben takes 101 for 3.
        ApartGames g = Told.game("game 1 3 2 2;win 0 0 0 1;win 0 0 1 1;win 0 1 1 0;win 0 2 1 1");
        Due.is("climb(0, 0, 0)", g.climb(0, 0, 0), 3);
        Due.is("climb(0, 0, 1)", g.climb(0, 0, 1), 1);
        Due.is("climb(0, 0, 2)", g.climb(0, 0, 2), 101);
        Due.is("climb(0, 0, 3)", g.climb(0, 0, 3), 3);
        Due.is("climb(1, 101, 3)", g.climb(1, 101, 3), 0);
        Due.is("climb(0, 111, 2), Ann ahead of Ben who has as much", g.climb(0, 111, 2), 101);
        Due.is("climb(0, 0, 4)", g.climb(0, 0, 4), NONE);
        Due.is("climb(0, 0, -1)", g.climb(0, 0, -1), NONE);
        Due.is("climb(2, 0, 0)", g.climb(2, 0, 0), NONE);
        Due.is("climb(0, 2, 0)", g.climb(0, 2, 0), NONE);
        // Nothing for Ben to take, so Ann takes first.
        g = Told.game("game 1 1 2 2;win 0 0 1 0;win 0 0 1 1");
        Due.is("climb(0, 1, 3)", g.climb(0, 1, 3), 1);
        Due.is("climb(0, 1, 2)", g.climb(0, 1, 2), 1);
        // Neither alone can do better: it stays, below the most.
        g = Told.game("game 1 1 2 2;win 0 0 1 1");
        Due.is("climb(0, 0, 0)", g.climb(0, 0, 0), 0);
        Due.is("climb(0, 0, 3)", g.climb(0, 0, 3), 0);
    }

    // 35
    private static void parts() {
        ApartGames g = Told.game("game 3 3 2 2;weight 0 1 0;weight 0 2 0;weight 1 0 0;weight 2 0 0;weight 2 1 0;"
                + "weight 1 2 0;weight 2 2 0;even 0 0");
        Due.is("parts(0)", g.parts(0), 4);
        Due.is("parts(1)", g.parts(1), 2);
        Due.is("parts(2)", g.parts(2), 0);
        g.weigh(0, 1, 3);
        Due.is("parts(0), joined", g.parts(0), 3);
        Due.is("parts(1), joined", g.parts(1), 4);
        g.parity(0, 1, 1);
        Due.is("parts(2), one open", g.parts(2), 0);
        g.parity(1, 1, 1);
        Due.is("parts(2), all won", g.parts(2), 1);
        Due.is("parts(3)", g.parts(3), NONE);
        Due.is("parts(-1)", g.parts(-1), NONE);
        Due.is("parts(1) of a chain", Told.game("game 5 5 2 2").parts(1), 10);
    }

    // 36, 37
    private static void parity() {
        ApartGames g = Told.game(CHSH);
        Due.is("sign(0, 1)", g.sign(0, 1), 1);
        Due.is("sign(1, 1)", g.sign(1, 1), -1);
        Due.is("sign(1, 2)", g.sign(1, 2), -2);
        Due.is("sign(-1, 0)", g.sign(-1, 0), -2);
        Due.is("bias(0)", g.bias(0), 2);
        Due.is("bias(1)", g.bias(1), 1);
        Due.is("bias(2)", g.bias(2), 1);
        Due.is("bias(3)", g.bias(3), NONE);
        Due.is("bias(-1)", g.bias(-1), NONE);
        g.copy(0, 1);
        Due.is("bias(1) of 3 by 2", g.bias(1), 3);
        Due.is("bias(2) of 3 by 2", g.bias(2), 2);
        g.decide(0, 0, 0, 0);
        Due.is("sign(0, 0), none", g.sign(0, 0), 0);
        Due.is("bias(0), no parity game", g.bias(0), -2000);
        Due.is("bias(3), no parity game", g.bias(3), NONE);
        Due.is("product(), no parity game", g.product(), -2000);
        g.weigh(0, 0, 0);
        Due.is("bias(1), weight 0", g.bias(1), 1);
        Due.is("bias(0), weight 0", g.bias(0), 5);
        g = Told.game("game 1 1 3 2;odd 0 0");
        Due.is("sign(0, 0) of 3 by 2", g.sign(0, 0), -1);
        Due.is("bias(0) of 3 by 2", g.bias(0), -2000);
        Due.is("sign(0, 0), nothing wins", Told.game("game 1 1 2 2").sign(0, 0), 0);
        Due.is("sign(0, 0), all wins", Told.game("game 1 1 2 2;odd 0 0;even 0 0").sign(0, 0), 0);
    }

    // 38
    private static void twice() {
        ApartGames g = Told.game(CHSH);
        Due.is("twice(0)", g.twice(0), 10);
        Due.is("twice(-1)", g.twice(-1), NONE);
        Due.is("twice(2)", g.twice(2), NONE);
        Due.is("twice(0) of 65536 rows", Told.game("game 2 1 4 2;even 0 0;odd 1 0").twice(0), 4);
        Due.is("twice(0) of 4 to the 9th rows", Told.game("game 3 1 2 2").twice(0), -2);
        Due.is("twice(2) of too many", Told.game("game 3 1 2 2").twice(2), NONE);
        Due.is("twice(1) of 5 questions", Told.game("game 5 5 4 4").twice(1), -2);
        // Each wins alone with weights 2 of 2 + 3; once at least: by answering for the one or the other.
        g = Told.game("game 1 2 2 2;weight 0 0 2;weight 0 1 3;win 0 0 0 0;win 0 1 1 0");
        Due.is("twice(0) by hand", g.twice(0), 9);
        Due.is("twice(1) by hand", g.twice(1), 21);
        // Feige's game: both name one of the two questions alike. Both times it can be had as often as once.
        g = Told.game("game 2 2 4 4;win 0 0 0 0;win 0 1 0 0;win 1 0 1 1;win 1 1 1 1;"
                + "win 0 0 2 2;win 0 1 3 3;win 1 0 2 2;win 1 1 3 3");
        Due.is("Feige's game once", g.worth(0), 2);
        Due.is("Feige's game twice", g.twice(0), 8);
        // Whatever the answers are called, it stays so.
        for (int i = 0; i < 8; i++) {
            g.exchange(i % 2, i / 2 % 2, i % 3, 3);
            Due.is("Feige's game twice, called otherwise", g.twice(0), 8);
        }
    }

    // 39
    private static void product() {
        ApartGames g = Told.game(CHSH);
        Due.is("product()", g.product(), 8);
        Due.is("product() of 5 questions", Told.game("game 5 1 2 2;even 0 0;even 1 0;even 2 0;even 3 0;odd 4 0")
                .product(), -2001);
        Due.is("product() of 5 questions, no parity game", Told.game("game 5 1 2 2").product(), -2000);
        Due.is("product() of one", Told.game("game 1 1 2 2;odd 0 0;weight 0 0 9").product(), 81);
        Due.is("product() of weights 0", Told.game("game 1 1 2 2;weight 0 0 0").product(), 0);
        g = Told.game("game 4 5 2 2");
        for (int x = 0; x < 4; x++) {
            for (int y = 0; y < 5; y++) {
                g.parity(x, y, x % 2);
            }
        }
        Due.is("product() all at one", g.product(), 400);
    }

    // 40
    private static void boxes() {
        // Half of 0, 0 and 1, 1 where even wins, of 0, 1 and 1, 0 where odd does: wins throughout, does not signal.
        ApartGames g = Told.game(CHSH + ";box 0 0 0 0 6;box 0 0 1 1 6;box 0 1 0 0 6;box 0 1 1 1 6;box 1 0 0 0 6;"
                + "box 1 0 1 1 6;box 1 1 0 1 6;box 1 1 1 0 6");
        Due.is("boxed(0)", g.boxed(0), 48);
        Due.is("boxed(1)", g.boxed(1), 1);
        Due.is("boxed(2)", g.boxed(2), 0);
        Due.is("boxed(3)", g.boxed(3), 1);
        Due.is("boxed(4)", g.boxed(4), NONE);
        Due.is("boxed(-1)", g.boxed(-1), NONE);
        g.weigh(1, 1, 3);
        Due.is("boxed(0), weights", g.boxed(0), 72);
        g.box(0, 0, 0, 0, 5);
        Due.is("boxed(0), one less", g.boxed(0), 71);
        Due.is("boxed(1), not whole", g.boxed(1), 0);
        Due.is("boxed(2), one less", g.boxed(2), 1);
        g = Told.game("game 1 2 2 2;even 0 0;box 0 0 0 0 12;box 0 1 0 1 12");
        Due.is("boxed(3), as much as rows", g.boxed(3), 0);
        Due.is("boxed(2), Ben's own answer", g.boxed(2), 0);
        g.exchange(1, 1, 0, 1);
        g.box(0, 1, 0, 0, 0);
        g.box(0, 1, 1, 0, 12);
        Due.is("boxed(2), Ann's by Ben's question", g.boxed(2), 1);
        g.swap();
        Due.is("boxed(2), Ben's by Ann's question", g.boxed(2), 1);
        Due.is("boxed(1)", g.boxed(1), 1);
    }

    // 42
    private static void symmetries() {
        Due.is("symmetries() of all alike", Told.game("game 5 5 2 2").symmetries(), 14400);
        Due.is("symmetries() of one", Told.game("game 1 1 2 2").symmetries(), 1);
        ApartGames g = Told.game("game 3 3 2 2;weight 0 0 2;weight 1 1 2;weight 2 2 2");
        Due.is("symmetries(), both together", g.symmetries(), 6);
        g.weigh(2, 2, 3);
        Due.is("symmetries(), the first two alone", g.symmetries(), 2);
        g.box(0, 0, 0, 0, 1);
        Due.is("symmetries(), whatever the box", g.symmetries(), 2);
        g.decide(0, 0, 0, 0);
        Due.is("symmetries(), wins", g.symmetries(), 1);
        Due.is("symmetries() of 2 by 3", Told.game("game 2 3 2 2;weight 0 0 5;weight 1 0 5").symmetries(), 4);
    }

    // 43
    private static void letter() {
        ApartGames g = Told.game("game 2 1 2 4;box 1 0 1 3 12;even 1 0;weight 0 0 1;weight 1 0 0;box 0 0 0 0 4");
        String text = "game 2 1 2 4;weight 1 0 0;win 1 0 0 0;win 1 0 0 2;win 1 0 1 1;win 1 0 1 3;box 0 0 0 0 4;"
                + "box 1 0 1 3 12";
        Due.is("letter(NONE)", g.letter(NONE), text.length());
        Due.is("the text", Told.letters(g).equals(text) ? 1 : 0, 1);
        Due.is("letter() behind the last one", g.letter(text.length()), -2);
        Due.is("letter() far behind", g.letter(Integer.MAX_VALUE), -2);
        Due.is("letter(-2)", g.letter(-2), NONE);
        Due.is("letter() far below", g.letter(Integer.MIN_VALUE), NONE);
        ApartGames full = Told.game("game 5 5 4 4");
        full.mix(0, 0, 12);
        Due.is("letter(NONE) of 25 boxes", full.letter(NONE), 12 + 25 * 15);
    }

    // 44
    private static void counts() {
        ApartGames g = Told.game("game 2 3 4 2;even 0 0");
        g.weigh(0, 0, 3);
        g.keep(1);
        Told.lay(g, "abc");
        int[] due = {2, 3, 4, 2, 4, 1, 3, 2};
        for (int what = 0; what < due.length; what++) {
            Due.is("count(" + what + ")", g.count(what), due[what]);
        }
        Due.is("count(8)", g.count(8), NONE);
        Due.is("count(-1)", g.count(-1), NONE);
    }
}
