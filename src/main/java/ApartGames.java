/**
 * Games for two players apart, Ann and Ben: each is asked a question, each answers alone.
 * The promises are numbered in ../shared/DOC.md; the methods stand in their order.
 *
 * Everything that a call needs is made once, in the constructor: no call makes an object.
 */
public final class ApartGames {
    public static final int NONE = -1;

    private static final int REFUSED = -2;
    private static final int NO_PARITY_GAME = -2000;
    private static final int TOO_MANY_QUESTIONS = -2001;

    private static final int ANN = 0;
    private static final int BEN = 1;

    private static final int MOST_QUESTIONS = 5;
    // Questions as bits: more than a player has do no harm.
    private static final int ALL_QUESTIONS = 31;
    private static final int LEAST_ANSWERS = 2;
    private static final int MOST_ANSWERS = 4;
    private static final int MOST_WEIGHT = 9;
    private static final int MOST_BOX = 12;
    private static final int MOST_ROWS_TWICE = 70000;
    private static final int MOST_QUESTIONS_WITH_ITSELF = 4;
    private static final int SHELVES = 2;

    private final Tape tape = new Tape();
    private final Past past = new Past();
    private final Table table = new Table();
    private final Duo duo = new Duo();
    private final Shape shape = new Shape();
    private final Scribe scribe = new Scribe();
    private final Game[] shelves = {new Game(), new Game()};
    private int shelvesInUse = 0;
    private Game game = new Game();
    private Game spare = new Game();

    public ApartGames() {
    }

    // ---- the tape: promises 2 to 4

    public int feed(int a, int b, int c, int d, int e) {
        if (!tape.hasRoomForFive()) {
            return NONE;
        }
        tape.addNumber(a);
        tape.addNumber(b);
        tape.addNumber(c);
        tape.addNumber(d);
        tape.addNumber(e);
        return tape.length;
    }

    public int end(int n) {
        if (n < 0 || n > tape.length) {
            return NONE;
        }
        tape.length = n;
        return n;
    }

    public int tell() {
        int fault = tape.readInto(spare);
        tape.length = 0;
        if (fault != 0) {
            return -2 - fault;
        }
        takeSpare();
        past.forget();
        return game.annQuestions;
    }

    // ---- acts: promises 5 to 14

    public int weigh(int x, int y, int n) {
        if (!game.hasCell(x, y) || n < 0 || n > MOST_WEIGHT) {
            return NONE;
        }
        int cell = cellOf(ANN, x, y);
        int was = game.weights[cell];
        if (was == n) {
            return REFUSED;
        }
        past.remember(game);
        game.weights[cell] = n;
        return was;
    }

    public int decide(int x, int y, int a, int b) {
        if (!game.hasSpot(x, y, a, b)) {
            return NONE;
        }
        past.remember(game);
        int spot = spotOf(ANN, x, y, a, b);
        game.winning[spot] = 1 - game.winning[spot];
        return game.winning[spot];
    }

    public int parity(int x, int y, int s) {
        if (!game.hasCell(x, y) || s < 0 || s > 1) {
            return NONE;
        }
        if (game.signAt(x, y) == 1 - 2 * s) {
            return REFUSED;
        }
        past.remember(game);
        game.winByParity(x, y, s);
        return 1;
    }

    public int exchange(int player, int question, int answer, int other) {
        if (!game.hasTwoAnswers(player, question, answer, other)) {
            return NONE;
        }
        past.remember(game);
        game.exchangeAnswers(player, question, answer, other);
        return 1;
    }

    public int swap() {
        if (!game.isTold()) {
            return NONE;
        }
        past.remember(game);
        spare.becomeFlipped(game);
        takeSpare();
        return 1;
    }

    public int drop(int player, int question) {
        if (!game.hasQuestion(player, question)) {
            return NONE;
        }
        if (game.questionsOf(player) == 1) {
            return REFUSED;
        }
        past.remember(game);
        return game.dropQuestion(player, question);
    }

    public int copy(int player, int question) {
        if (!game.hasQuestion(player, question)) {
            return NONE;
        }
        if (game.questionsOf(player) == MOST_QUESTIONS) {
            return REFUSED;
        }
        past.remember(game);
        return game.addQuestionLike(player, question);
    }

    public int box(int x, int y, int a, int b, int n) {
        if (!game.hasSpot(x, y, a, b) || n < 0 || n > MOST_BOX) {
            return NONE;
        }
        int spot = spotOf(ANN, x, y, a, b);
        int was = game.boxes[spot];
        if (was == n) {
            return REFUSED;
        }
        past.remember(game);
        game.boxes[spot] = n;
        return was;
    }

    public int mix(int ann, int ben, int n) {
        if (!duo.takeBoth(game, ann, ben) || n < 1 || n > MOST_BOX) {
            return NONE;
        }
        if (duo.greatestBox(game) + n > MOST_BOX) {
            return REFUSED;
        }
        past.remember(game);
        duo.addToBoxes(game, n);
        return 1;
    }

    public int draw(int seed) {
        if (!game.isTold()) {
            return NONE;
        }
        past.remember(game);
        game.drawAll(seed);
        return game.winningSpots();
    }

    // ---- undone, kept: promises 15 to 17

    public int undo() {
        if (past.size == 0) {
            return NONE;
        }
        past.restore(game);
        return past.size;
    }

    public int keep(int shelf) {
        if (shelf < 0 || shelf >= SHELVES) {
            return NONE;
        }
        shelves[shelf].become(game);
        shelvesInUse |= 1 << shelf;
        return game.annQuestions;
    }

    public int back(int shelf) {
        if (shelf < 0 || shelf >= SHELVES) {
            return NONE;
        }
        if ((shelvesInUse >> shelf & 1) == 0) {
            return REFUSED;
        }
        game.become(shelves[shelf]);
        past.forget();
        return game.annQuestions;
    }

    // ---- what rows are worth: promises 18 to 29

    public int wins(int x, int y, int a, int b) {
        return game.hasSpot(x, y, a, b) ? game.winning[spotOf(ANN, x, y, a, b)] : NONE;
    }

    public int weight(int x, int y) {
        return game.hasCell(x, y) ? game.weights[cellOf(ANN, x, y)] : NONE;
    }

    public int worth(int what) {
        if (!game.isTold()) {
            return NONE;
        }
        switch (what) {
            case 0:
                return mostOf(game);
            case 1:
                return game.weightTogether();
            case 2:
                table.loadSome(game, ANN, ALL_QUESTIONS);
                return table.leastLow();
            case 3:
                table.loadSome(game, ANN, ALL_QUESTIONS);
                return table.mostLow();
            case 4:
                table.loadSome(game, BEN, ALL_QUESTIONS);
                return table.mostLow();
            default:
                return NONE;
        }
    }

    public int sure(int player) {
        if (!game.isTold() || !isPlayer(player)) {
            return NONE;
        }
        table.loadSome(game, player, ALL_QUESTIONS);
        return table.firstRowOfLow(table.mostLow());
    }

    public int play(int ann, int ben) {
        return duo.takeBoth(game, ann, ben) ? duo.worthBoth(game) : NONE;
    }

    public int hangs(int ann, int y) {
        if (!duo.take(game, ANN, ann) || !game.hasQuestion(BEN, y)) {
            return NONE;
        }
        return duo.spanAt(game, y);
    }

    public int reply(int player, int other) {
        if (!isPlayer(player) || !duo.take(game, 1 - player, other)) {
            return NONE;
        }
        duo.answerBest(game, player);
        return duo.bestReply(game, player);
    }

    public long bests() {
        if (!game.isTold()) {
            return NONE;
        }
        int most = mostOf(game);
        table.loadSome(game, ANN, ALL_QUESTIONS);
        return table.countTops(most);
    }

    public int best(int k, int player) {
        if (!game.isTold() || !isPlayer(player) || k < 0) {
            return NONE;
        }
        int most = mostOf(game);
        table.loadSome(game, ANN, ALL_QUESTIONS);
        return table.rowOfTop(most, k, player);
    }

    public long lost(int x, int y) {
        if (!game.hasCell(x, y)) {
            return NONE;
        }
        int most = mostOf(game);
        table.loadSome(game, ANN, ALL_QUESTIONS);
        return table.countTopsLosing(game, most, x, y);
    }

    public long mean(int what) {
        if (!game.isTold() || what < 0 || what > 1) {
            return NONE;
        }
        int above = game.weightOfWinningSpots();
        int below = game.annAnswers * game.benAnswers;
        int shared = commonDivisor(above, below);
        return (what == 0 ? above : below) / shared;
    }

    public int talk(int what) {
        if (!game.isTold() || what < 0 || what > 1) {
            return NONE;
        }
        int subsets = 1 << game.annQuestions;
        int most = -1;
        int least = 0;
        for (int told = 0; told < subsets; told += 2) {
            int had = mostAsked(told) + mostAsked(subsets - 1 - told);
            if (had > most) {
                most = had;
                least = told;
            }
        }
        return what == 0 ? most : least;
    }

    // ---- questions and answers looked at: promises 30 to 35

    public int without(int player, int question) {
        if (!game.hasQuestion(player, question)) {
            return NONE;
        }
        spare.become(game);
        for (int other = 0; other < spare.questionsOf(1 - player); other++) {
            spare.weights[cellOf(player, question, other)] = 0;
        }
        return mostOf(spare);
    }

    public int lesser(int player, int question, int answer, int other) {
        if (!game.hasTwoAnswers(player, question, answer, other)) {
            return NONE;
        }
        return game.isLesser(player, question, answer, other) ? 1 : 0;
    }

    public int same(int player, int question, int other) {
        if (!game.hasQuestion(player, question) || !game.hasQuestion(player, other) || question == other) {
            return NONE;
        }
        return game.areSame(player, question, other) ? 1 : 0;
    }

    public int climb(int ann, int ben, int what) {
        if (!duo.takeBoth(game, ann, ben) || what < 0 || what > 3) {
            return NONE;
        }
        int taken = duo.climbUp(game);
        switch (what) {
            case 0:
                return duo.worthBoth(game);
            case 1:
                return duo.rowOf(game, ANN);
            case 2:
                return duo.rowOf(game, BEN);
            default:
                return taken;
        }
    }

    public int cut(int x, int y) {
        if (!game.hasCell(x, y)) {
            return NONE;
        }
        spare.become(game);
        spare.weights[cellOf(ANN, x, y)] = 0;
        return mostOf(spare);
    }

    public int parts(int what) {
        if (!game.isTold()) {
            return NONE;
        }
        switch (what) {
            case 0:
                return shape.partsOf(game);
            case 1:
                return shape.greatestPartOf(game);
            case 2:
                return mostOf(game) == game.weightTogether() ? 1 : 0;
            default:
                return NONE;
        }
    }

    // ---- parity games, a game twice: promises 36 to 39

    public int sign(int x, int y) {
        return game.hasCell(x, y) ? game.signAt(x, y) : -2;
    }

    public int bias(int what) {
        if (!game.isTold() || what < 0 || what > 2) {
            return NONE;
        }
        if (!game.isParityGame()) {
            return NO_PARITY_GAME;
        }
        if (what == 0) {
            return mostBias();
        }
        return game.squares(what == 2);
    }

    public int twice(int what) {
        if (!game.isTold() || what < 0 || what > 1) {
            return NONE;
        }
        if (rowsTwice() > MOST_ROWS_TWICE) {
            return REFUSED;
        }
        int once = mostOf(game);
        int total = game.weightTogether();
        int missed = total - once;
        // The best rows played in both games at once give a first value to beat.
        int floor = what == 0 ? once * once : total * total - missed * missed;
        table.loadTwice(game, what == 1);
        return table.mostAbove(floor);
    }

    public int product() {
        if (!game.isTold()) {
            return NONE;
        }
        if (!game.isParityGame()) {
            return NO_PARITY_GAME;
        }
        if (game.annQuestions > MOST_QUESTIONS_WITH_ITSELF) {
            return TOO_MANY_QUESTIONS;
        }
        int bias = mostBias();
        table.loadWithItself(game);
        return table.mostAbove(bias * bias);
    }

    // ---- boxes, orders, the text, counts: promises 40 to 44

    public int boxed(int what) {
        if (!game.isTold()) {
            return NONE;
        }
        switch (what) {
            case 0:
                return game.boxWorth();
            case 1:
                return game.isWhole() ? 1 : 0;
            case 2:
                return game.signalsTo(ANN) || game.signalsTo(BEN) ? 1 : 0;
            case 3:
                return game.boxWorth() > MOST_BOX * mostOf(game) ? 1 : 0;
            default:
                return NONE;
        }
    }

    public int marginal(int player, int question, int answer, int other) {
        if (!game.hasQuestion(player, question) || !game.hasAnswer(player, answer)
                || !game.hasQuestion(1 - player, other)) {
            return NONE;
        }
        return game.howOften(player, question, answer, other);
    }

    public int symmetries() {
        return game.isTold() ? shape.ordersOf(game) : NONE;
    }

    public int letter(int k) {
        if (k < NONE) {
            return NONE;
        }
        int length = scribe.write(game, k);
        if (k == NONE) {
            return length;
        }
        return k < length ? scribe.found : REFUSED;
    }

    public int count(int what) {
        switch (what) {
            case 0:
                return game.annQuestions;
            case 1:
                return game.benQuestions;
            case 2:
                return game.annAnswers;
            case 3:
                return game.benAnswers;
            case 4:
                return game.winningSpots();
            case 5:
                return past.size;
            case 6:
                return tape.length;
            case 7:
                return shelvesInUse;
            default:
                return NONE;
        }
    }

    // ---- helpers of the methods above

    private void takeSpare() {
        Game old = game;
        game = spare;
        spare = old;
    }

    private int mostOf(Game asked) {
        table.loadSome(asked, ANN, ALL_QUESTIONS);
        return table.mostAbove(0);
    }

    private int mostAsked(int annSubset) {
        table.loadSome(game, ANN, annSubset);
        return table.mostAbove(0);
    }

    private int mostBias() {
        return 2 * mostOf(game) - game.weightTogether();
    }

    private int rowsTwice() {
        int answers = game.annAnswers * game.annAnswers;
        int questions = game.annQuestions * game.annQuestions;
        int rows = 1;
        for (int i = 0; i < questions && rows <= MOST_ROWS_TWICE; i++) {
            rows *= answers;
        }
        return rows;
    }

    private static boolean isPlayer(int player) {
        return player == ANN || player == BEN;
    }

    private static int cellOf(int player, int own, int other) {
        return player == ANN ? own * MOST_QUESTIONS + other : other * MOST_QUESTIONS + own;
    }

    private static int spotOf(int player, int own, int other, int mine, int his) {
        if (player == ANN) {
            return ((own * MOST_QUESTIONS + other) * MOST_ANSWERS + mine) * MOST_ANSWERS + his;
        }
        return ((other * MOST_QUESTIONS + own) * MOST_ANSWERS + his) * MOST_ANSWERS + mine;
    }

    private static int commonDivisor(int one, int other) {
        int great = one;
        int small = other;
        // Each step makes the smaller number smaller; 100 steps are above what an int can need.
        for (int step = 0; step < 100 && small != 0; step++) {
            int left = great % small;
            great = small;
            small = left;
        }
        return great == 0 ? 1 : great;
    }

    /** Questions, answers, weights, what wins, the box. Without questions: no game. */
    private static final class Game {
        private static final int CELLS = MOST_QUESTIONS * MOST_QUESTIONS;
        private static final int SPOTS = CELLS * MOST_ANSWERS * MOST_ANSWERS;

        private int annQuestions = 0;
        private int benQuestions = 0;
        private int annAnswers = 0;
        private int benAnswers = 0;
        private final int[] weights = new int[CELLS];
        private final int[] winning = new int[SPOTS];
        private final int[] boxes = new int[SPOTS];

        private void become(Game source) {
            annQuestions = source.annQuestions;
            benQuestions = source.benQuestions;
            annAnswers = source.annAnswers;
            benAnswers = source.benAnswers;
            System.arraycopy(source.weights, 0, weights, 0, CELLS);
            System.arraycopy(source.winning, 0, winning, 0, SPOTS);
            System.arraycopy(source.boxes, 0, boxes, 0, SPOTS);
        }

        private void becomeFlipped(Game source) {
            annQuestions = source.benQuestions;
            benQuestions = source.annQuestions;
            annAnswers = source.benAnswers;
            benAnswers = source.annAnswers;
            for (int x = 0; x < annQuestions; x++) {
                for (int y = 0; y < benQuestions; y++) {
                    weights[cellOf(ANN, x, y)] = source.weights[cellOf(BEN, x, y)];
                    flipAnswers(source, x, y);
                }
            }
        }

        private void flipAnswers(Game source, int x, int y) {
            for (int a = 0; a < annAnswers; a++) {
                for (int b = 0; b < benAnswers; b++) {
                    int here = spotOf(ANN, x, y, a, b);
                    int there = spotOf(BEN, x, y, a, b);
                    winning[here] = source.winning[there];
                    boxes[here] = source.boxes[there];
                }
            }
        }

        private void start(int questionsOfAnn, int questionsOfBen, int answersOfAnn, int answersOfBen) {
            annQuestions = questionsOfAnn;
            benQuestions = questionsOfBen;
            annAnswers = answersOfAnn;
            benAnswers = answersOfBen;
            for (int cell = 0; cell < CELLS; cell++) {
                weights[cell] = 1;
            }
            for (int spot = 0; spot < SPOTS; spot++) {
                winning[spot] = 0;
                boxes[spot] = 0;
            }
        }

        private boolean isTold() {
            return annQuestions > 0;
        }

        private int questionsOf(int player) {
            return player == ANN ? annQuestions : benQuestions;
        }

        private int answersOf(int player) {
            return player == ANN ? annAnswers : benAnswers;
        }

        private boolean hasQuestion(int player, int question) {
            return isPlayer(player) && question >= 0 && question < questionsOf(player);
        }

        private boolean hasAnswer(int player, int answer) {
            return isPlayer(player) && answer >= 0 && answer < answersOf(player);
        }

        private boolean hasTwoAnswers(int player, int question, int answer, int other) {
            return hasQuestion(player, question) && hasAnswer(player, answer) && hasAnswer(player, other)
                    && answer != other;
        }

        private boolean hasCell(int x, int y) {
            return hasQuestion(ANN, x) && hasQuestion(BEN, y);
        }

        private boolean hasSpot(int x, int y, int a, int b) {
            return hasCell(x, y) && hasAnswer(ANN, a) && hasAnswer(BEN, b);
        }

        // What one two of answers brings: the weight if it wins, else 0.
        private int gain(int player, int own, int other, int mine, int his) {
            return weights[cellOf(player, own, other)] * winning[spotOf(player, own, other, mine, his)];
        }

        private void winByParity(int x, int y, int odd) {
            for (int a = 0; a < annAnswers; a++) {
                for (int b = 0; b < benAnswers; b++) {
                    winning[spotOf(ANN, x, y, a, b)] = (a + b) % 2 == odd ? 1 : 0;
                }
            }
        }

        private void exchangeAnswers(int player, int question, int answer, int other) {
            for (int his = 0; his < questionsOf(1 - player); his++) {
                for (int b = 0; b < answersOf(1 - player); b++) {
                    int one = spotOf(player, question, his, answer, b);
                    int two = spotOf(player, question, his, other, b);
                    exchangeEntries(winning, one, two);
                    exchangeEntries(boxes, one, two);
                }
            }
        }

        private static void exchangeEntries(int[] entries, int one, int two) {
            int held = entries[one];
            entries[one] = entries[two];
            entries[two] = held;
        }

        private int dropQuestion(int player, int question) {
            int left = questionsOf(player) - 1;
            for (int own = question; own < left; own++) {
                copyOver(player, own + 1, own);
            }
            setQuestions(player, left);
            return left;
        }

        private int addQuestionLike(int player, int question) {
            int last = questionsOf(player);
            copyOver(player, question, last);
            setQuestions(player, last + 1);
            return last + 1;
        }

        private void setQuestions(int player, int questions) {
            if (player == ANN) {
                annQuestions = questions;
            } else {
                benQuestions = questions;
            }
        }

        private void copyOver(int player, int source, int target) {
            for (int other = 0; other < questionsOf(1 - player); other++) {
                weights[cellOf(player, target, other)] = weights[cellOf(player, source, other)];
                for (int mine = 0; mine < answersOf(player); mine++) {
                    for (int his = 0; his < answersOf(1 - player); his++) {
                        int to = spotOf(player, target, other, mine, his);
                        int from = spotOf(player, source, other, mine, his);
                        winning[to] = winning[from];
                        boxes[to] = boxes[from];
                    }
                }
            }
        }

        private void drawAll(int seed) {
            int state = seed;
            for (int x = 0; x < annQuestions; x++) {
                for (int y = 0; y < benQuestions; y++) {
                    state = nextState(state);
                    weights[cellOf(ANN, x, y)] = (state >>> 16) % 4 + 1;
                    for (int a = 0; a < annAnswers; a++) {
                        for (int b = 0; b < benAnswers; b++) {
                            state = nextState(state);
                            winning[spotOf(ANN, x, y, a, b)] = (state >>> 16) % 2;
                        }
                    }
                }
            }
        }

        private static int nextState(int state) {
            return state * 1103515245 + 12345;
        }

        private int weightTogether() {
            int total = 0;
            for (int x = 0; x < annQuestions; x++) {
                for (int y = 0; y < benQuestions; y++) {
                    total += weights[cellOf(ANN, x, y)];
                }
            }
            return total;
        }

        private int winningAt(int x, int y) {
            int found = 0;
            for (int a = 0; a < annAnswers; a++) {
                for (int b = 0; b < benAnswers; b++) {
                    found += winning[spotOf(ANN, x, y, a, b)];
                }
            }
            return found;
        }

        private int winningSpots() {
            int found = 0;
            for (int x = 0; x < annQuestions; x++) {
                for (int y = 0; y < benQuestions; y++) {
                    found += winningAt(x, y);
                }
            }
            return found;
        }

        private int weightOfWinningSpots() {
            int total = 0;
            for (int x = 0; x < annQuestions; x++) {
                for (int y = 0; y < benQuestions; y++) {
                    total += weights[cellOf(ANN, x, y)] * winningAt(x, y);
                }
            }
            return total;
        }

        private boolean isLesser(int player, int question, int answer, int other) {
            for (int his = 0; his < questionsOf(1 - player); his++) {
                for (int b = 0; b < answersOf(1 - player); b++) {
                    if (gain(player, question, his, answer, b) > gain(player, question, his, other, b)) {
                        return false;
                    }
                }
            }
            return true;
        }

        private boolean areSame(int player, int one, int two) {
            for (int other = 0; other < questionsOf(1 - player); other++) {
                if (weights[cellOf(player, one, other)] != weights[cellOf(player, two, other)]
                        || !areSameSpots(player, one, two, other)) {
                    return false;
                }
            }
            return true;
        }

        private boolean areSameSpots(int player, int one, int two, int other) {
            for (int mine = 0; mine < answersOf(player); mine++) {
                for (int his = 0; his < answersOf(1 - player); his++) {
                    int here = spotOf(player, one, other, mine, his);
                    int there = spotOf(player, two, other, mine, his);
                    if (winning[here] != winning[there] || boxes[here] != boxes[there]) {
                        return false;
                    }
                }
            }
            return true;
        }

        private int signAt(int x, int y) {
            int even = 0;
            int odd = 0;
            for (int a = 0; a < annAnswers; a++) {
                for (int b = 0; b < benAnswers; b++) {
                    boolean wins = winning[spotOf(ANN, x, y, a, b)] == 1;
                    if (wins == ((a + b) % 2 == 0)) {
                        even++;
                    } else {
                        odd++;
                    }
                }
            }
            if (odd == 0) {
                return 1;
            }
            return even == 0 ? -1 : 0;
        }

        private boolean isParityGame() {
            if (annAnswers != 2 || benAnswers != 2) {
                return false;
            }
            for (int x = 0; x < annQuestions; x++) {
                for (int y = 0; y < benQuestions; y++) {
                    if (weights[cellOf(ANN, x, y)] > 0 && signAt(x, y) == 0) {
                        return false;
                    }
                }
            }
            return true;
        }

        private int signedWeight(int x, int y) {
            return weights[cellOf(ANN, x, y)] * signAt(x, y);
        }

        // In a parity game a square has all four weights above 0 just if its signed weights multiply to not 0.
        private int squares(boolean crossedAlone) {
            int found = 0;
            for (int x = 0; x < annQuestions; x++) {
                for (int later = x + 1; later < annQuestions; later++) {
                    found += squaresOfTwo(x, later, crossedAlone);
                }
            }
            return found;
        }

        private int squaresOfTwo(int x, int later, boolean crossedAlone) {
            int found = 0;
            for (int y = 0; y < benQuestions; y++) {
                int ahead = signedWeight(x, y) * signedWeight(later, y);
                for (int z = y + 1; z < benQuestions; z++) {
                    int all = ahead * signedWeight(x, z) * signedWeight(later, z);
                    if (all < 0 || all > 0 && !crossedAlone) {
                        found++;
                    }
                }
            }
            return found;
        }

        private int boxWorth() {
            int total = 0;
            for (int x = 0; x < annQuestions; x++) {
                for (int y = 0; y < benQuestions; y++) {
                    for (int a = 0; a < annAnswers; a++) {
                        for (int b = 0; b < benAnswers; b++) {
                            total += gain(ANN, x, y, a, b) * boxes[spotOf(ANN, x, y, a, b)];
                        }
                    }
                }
            }
            return total;
        }

        private boolean isWhole() {
            for (int x = 0; x < annQuestions; x++) {
                for (int y = 0; y < benQuestions; y++) {
                    int together = 0;
                    for (int a = 0; a < annAnswers; a++) {
                        together += howOften(ANN, x, a, y);
                    }
                    if (together != MOST_BOX) {
                        return false;
                    }
                }
            }
            return true;
        }

        private int howOften(int player, int question, int answer, int other) {
            int often = 0;
            for (int his = 0; his < answersOf(1 - player); his++) {
                often += boxes[spotOf(player, question, other, answer, his)];
            }
            return often;
        }

        // Whether a player's own answers tell something of the other one's question.
        private boolean signalsTo(int player) {
            for (int question = 0; question < questionsOf(player); question++) {
                for (int answer = 0; answer < answersOf(player); answer++) {
                    int first = howOften(player, question, answer, 0);
                    for (int other = 1; other < questionsOf(1 - player); other++) {
                        if (howOften(player, question, answer, other) != first) {
                            return true;
                        }
                    }
                }
            }
            return false;
        }
    }

    /** The games as they were ahead of the last acts. */
    private static final class Past {
        private static final int MOST = 10;

        private final Game[] games = {new Game(), new Game(), new Game(), new Game(), new Game(),
            new Game(), new Game(), new Game(), new Game(), new Game()};
        private int next = 0;
        private int size = 0;

        private void remember(Game game) {
            games[next].become(game);
            next = (next + 1) % MOST;
            size = Math.min(size + 1, MOST);
        }

        private void restore(Game game) {
            next = (next + MOST - 1) % MOST;
            size--;
            game.become(games[next]);
        }

        private void forget() {
            size = 0;
        }
    }

    /** The bytes fed, and the reading of them as a game. */
    private static final class Tape {
        private static final int MOST = 400;
        private static final int BYTES_OF_FIVE = 20;
        // Above every number that a text may tell, so that long numbers stay wrong.
        private static final int BIG = 1000;

        private static final int OTHER_WORD = 0;
        private static final int WEIGHT = 1;
        private static final int WIN = 2;
        private static final int EVEN = 3;
        private static final int ODD = 4;
        private static final int ALIKE = 5;
        private static final int UNLIKE = 6;
        private static final int BOX = 7;

        private final int[] bytes = new int[MOST];
        private int length = 0;
        private int at = 0;
        // 0: none. The first one stays, and what is read behind it does nothing.
        private int fault = 0;

        private boolean hasRoomForFive() {
            return length + BYTES_OF_FIVE <= MOST;
        }

        private void addNumber(int number) {
            for (int shift = 24; shift >= 0 && length < MOST; shift -= 8) {
                bytes[length] = number >>> shift & 255;
                length++;
            }
        }

        private int readInto(Game game) {
            at = 0;
            fault = 0;
            readHead(game);
            skipBlanks();
            // Each part has a byte at least, so there are no more parts than bytes.
            for (int part = 0; part < MOST && fault == 0 && at < length; part++) {
                readPart(game);
                skipBlanks();
            }
            return fault;
        }

        private void readHead(Game game) {
            skipBlanks();
            int behind = behindWord();
            if (!isWord("game", behind)) {
                blame(at, 1);
                return;
            }
            at = behind;
            int annQuestions = readNumber(1, MOST_QUESTIONS);
            int benQuestions = readNumber(1, MOST_QUESTIONS);
            int annAnswers = readNumber(LEAST_ANSWERS, MOST_ANSWERS);
            int benAnswers = readNumber(LEAST_ANSWERS, MOST_ANSWERS);
            if (fault == 0) {
                game.start(annQuestions, benQuestions, annAnswers, benAnswers);
            }
        }

        private void readPart(Game game) {
            if (at >= length || bytes[at] != ';') {
                blame(at, 1);
                return;
            }
            at++;
            skipBlanks();
            int behind = behindWord();
            int kind = kindOfWord(behind);
            if (kind == OTHER_WORD) {
                blame(at, 1);
                return;
            }
            at = behind;
            int x = readNumber(0, game.annQuestions - 1);
            int y = readNumber(0, game.benQuestions - 1);
            if (kind == WEIGHT) {
                readWeight(game, x, y);
            } else if (kind == WIN || kind == BOX) {
                readSpot(game, kind, x, y);
            } else if (fault == 0) {
                winWhere(game, kind, x, y);
            }
        }

        private void readWeight(Game game, int x, int y) {
            int weight = readNumber(0, MOST_WEIGHT);
            if (fault == 0) {
                game.weights[cellOf(ANN, x, y)] = weight;
            }
        }

        private void readSpot(Game game, int kind, int x, int y) {
            int a = readNumber(0, game.annAnswers - 1);
            int b = readNumber(0, game.benAnswers - 1);
            int told = kind == BOX ? readNumber(0, MOST_BOX) : 1;
            if (fault != 0) {
                return;
            }
            int spot = spotOf(ANN, x, y, a, b);
            if (kind == BOX) {
                game.boxes[spot] = told;
            } else {
                game.winning[spot] = told;
            }
        }

        private static void winWhere(Game game, int kind, int x, int y) {
            for (int a = 0; a < game.annAnswers; a++) {
                for (int b = 0; b < game.benAnswers; b++) {
                    if (suits(kind, a, b)) {
                        game.winning[spotOf(ANN, x, y, a, b)] = 1;
                    }
                }
            }
        }

        private static boolean suits(int kind, int a, int b) {
            switch (kind) {
                case EVEN:
                    return (a + b) % 2 == 0;
                case ODD:
                    return (a + b) % 2 == 1;
                case ALIKE:
                    return a == b;
                case UNLIKE:
                    return a != b;
                default:
                    return false;
            }
        }

        private int kindOfWord(int behind) {
            if (isWord("weight", behind)) {
                return WEIGHT;
            }
            if (isWord("win", behind)) {
                return WIN;
            }
            if (isWord("even", behind)) {
                return EVEN;
            }
            if (isWord("odd", behind)) {
                return ODD;
            }
            if (isWord("alike", behind)) {
                return ALIKE;
            }
            if (isWord("unlike", behind)) {
                return UNLIKE;
            }
            return isWord("box", behind) ? BOX : OTHER_WORD;
        }

        private int behindWord() {
            int behind = at;
            while (behind < length && bytes[behind] >= 'a' && bytes[behind] <= 'z') {
                behind++;
            }
            return behind;
        }

        private boolean isWord(String word, int behind) {
            if (behind - at != word.length()) {
                return false;
            }
            for (int i = 0; i < word.length(); i++) {
                if (bytes[at + i] != word.charAt(i)) {
                    return false;
                }
            }
            return true;
        }

        private int readNumber(int least, int most) {
            if (fault != 0) {
                return least;
            }
            skipBlanks();
            int begin = at;
            int number = 0;
            while (at < length && bytes[at] >= '0' && bytes[at] <= '9') {
                number = Math.min(number * 10 + bytes[at] - '0', BIG);
                at++;
            }
            if (at == begin) {
                blame(begin, 1);
                return least;
            }
            if (number < least || number > most) {
                blame(begin, 2);
                return least;
            }
            return number;
        }

        private void skipBlanks() {
            while (at < length && bytes[at] == ' ') {
                at++;
            }
        }

        private void blame(int place, int kind) {
            if (fault == 0) {
                fault = 8 * place + kind;
            }
        }
    }

    /** A row of each player, and what the two rows do in a game. */
    private static final class Duo {
        // Each taking is worth more than the last one, and nothing is worth more than 225.
        private static final int MOST_TURNS = 1000;

        private final int[] annRow = new int[MOST_QUESTIONS];
        private final int[] benRow = new int[MOST_QUESTIONS];
        // Of the player that answerBest() was asked for.
        private final int[] bestRow = new int[MOST_QUESTIONS];

        private int[] answersBy(int player) {
            return player == ANN ? annRow : benRow;
        }

        private boolean takeBoth(Game game, int ann, int ben) {
            return take(game, ANN, ann) && take(game, BEN, ben);
        }

        private boolean take(Game game, int player, int number) {
            int[] row = answersBy(player);
            int left = number;
            if (!game.isTold() || number < 0) {
                return false;
            }
            for (int question = game.questionsOf(player) - 1; question >= 0; question--) {
                row[question] = left % 10;
                left /= 10;
                if (!game.hasAnswer(player, row[question])) {
                    return false;
                }
            }
            return left == 0;
        }

        private int rowOf(Game game, int player) {
            return numberOf(answersBy(player), game.questionsOf(player));
        }

        private int bestReply(Game game, int player) {
            return numberOf(bestRow, game.questionsOf(player));
        }

        private static int numberOf(int[] row, int questions) {
            int number = 0;
            for (int question = 0; question < questions; question++) {
                number = number * 10 + row[question];
            }
            return number;
        }

        private int worthBoth(Game game) {
            int total = 0;
            for (int x = 0; x < game.annQuestions; x++) {
                total += worthAt(game, ANN, x, annRow[x]);
            }
            return total;
        }

        // What one answer to one question brings against the whole row of the other one.
        private int worthAt(Game game, int player, int question, int answer) {
            int[] otherRow = answersBy(1 - player);
            int total = 0;
            for (int other = 0; other < game.questionsOf(1 - player); other++) {
                total += game.gain(player, question, other, answer, otherRow[other]);
            }
            return total;
        }

        private int spanAt(Game game, int y) {
            int most = worthAt(game, BEN, y, 0);
            int least = most;
            for (int b = 1; b < game.benAnswers; b++) {
                int had = worthAt(game, BEN, y, b);
                most = Math.max(most, had);
                least = Math.min(least, had);
            }
            return most - least;
        }

        // Finds the least row that wins most, into bestRow, and answers what it is worth.
        private int answerBest(Game game, int player) {
            int total = 0;
            for (int question = 0; question < game.questionsOf(player); question++) {
                int most = -1;
                for (int answer = 0; answer < game.answersOf(player); answer++) {
                    int had = worthAt(game, player, question, answer);
                    if (had > most) {
                        most = had;
                        bestRow[question] = answer;
                    }
                }
                total += most;
            }
            return total;
        }

        private int climbUp(Game game) {
            int had = worthBoth(game);
            int taken = 0;
            int idle = 0;
            int player = BEN;
            for (int turn = 0; turn < MOST_TURNS && idle < 2; turn++) {
                int most = answerBest(game, player);
                if (most > had) {
                    System.arraycopy(bestRow, 0, answersBy(player), 0, MOST_QUESTIONS);
                    had = most;
                    taken++;
                    idle = 0;
                } else {
                    idle++;
                }
                player = 1 - player;
            }
            return taken;
        }

        private int greatestBox(Game game) {
            int greatest = 0;
            for (int x = 0; x < game.annQuestions; x++) {
                for (int y = 0; y < game.benQuestions; y++) {
                    greatest = Math.max(greatest, game.boxes[spotOf(ANN, x, y, annRow[x], benRow[y])]);
                }
            }
            return greatest;
        }

        private void addToBoxes(Game game, int n) {
            for (int x = 0; x < game.annQuestions; x++) {
                for (int y = 0; y < game.benQuestions; y++) {
                    game.boxes[spotOf(ANN, x, y, annRow[x], benRow[y])] += n;
                }
            }
        }
    }

    /**
     * One player's questions and answers, and what each answer brings for every reply of the other one.
     * The other one's questions are the groups, each with its replies; a line has all groups, reply by reply.
     * The rows are gone through one by one (begin, step), or searched for the most (mostAbove).
     */
    private static final class Table {
        // The largest tables: 4 questions by 16 answers by 25 groups by 16 replies (a game twice).
        private static final int MOST_GAINS = 25600;
        // 5 lines of 400 (a game twice); 17 lines of 50 (a game with itself) are fewer.
        private static final int MOST_SUMS = 2000;
        private static final int MOST_LEVELS = 16;
        // 4 questions by 16 answers (a game twice).
        private static final int MOST_LINES = 64;

        private int questions = 0;
        private int answers = 0;
        private int groups = 0;
        private int replies = 0;
        private int line = 0;
        private final int[] gains = new int[MOST_GAINS];
        // Line n: what the answers to the first n questions bring together.
        private final int[] sums = new int[MOST_SUMS];
        // Line n: what the questions from n on can bring at the most, reply by reply.
        private final int[] hopes = new int[MOST_SUMS];
        // Answers, question by question, that the search need not try.
        private final boolean[] needless = new boolean[MOST_LINES];
        private final int[] row = new int[MOST_LEVELS];
        private final int[] replyRow = new int[MOST_QUESTIONS];
        private int most = 0;

        private void setSizes(int itsQuestions, int itsAnswers, int itsGroups, int itsReplies) {
            questions = itsQuestions;
            answers = itsAnswers;
            groups = itsGroups;
            replies = itsReplies;
            line = itsGroups * itsReplies;
        }

        private void loadSome(Game game, int player, int subset) {
            setSizes(0, game.answersOf(player), game.questionsOf(1 - player), game.answersOf(1 - player));
            for (int question = 0; question < game.questionsOf(player); question++) {
                if ((subset >> question & 1) == 1) {
                    loadQuestion(game, player, question);
                    questions++;
                }
            }
        }

        private void loadQuestion(Game game, int player, int question) {
            int to = questions * answers * line;
            for (int answer = 0; answer < answers; answer++) {
                for (int other = 0; other < groups; other++) {
                    for (int his = 0; his < replies; his++) {
                        gains[to] = game.gain(player, question, other, answer, his);
                        to++;
                    }
                }
            }
        }

        private void loadTwice(Game game, boolean onceIsEnough) {
            setSizes(game.annQuestions * game.annQuestions, game.annAnswers * game.annAnswers,
                    game.benQuestions * game.benQuestions, game.benAnswers * game.benAnswers);
            int to = 0;
            for (int x = 0; x < game.annQuestions; x++) {
                for (int z = 0; z < game.annQuestions; z++) {
                    for (int a = 0; a < game.annAnswers; a++) {
                        for (int c = 0; c < game.annAnswers; c++) {
                            loadTwiceLine(game, x, z, a, c, to, onceIsEnough);
                            to += line;
                        }
                    }
                }
            }
        }

        private void loadTwiceLine(Game game, int x, int z, int a, int c, int from, boolean onceIsEnough) {
            int to = from;
            for (int y = 0; y < game.benQuestions; y++) {
                for (int v = 0; v < game.benQuestions; v++) {
                    int together = game.weights[cellOf(ANN, x, y)] * game.weights[cellOf(ANN, z, v)];
                    for (int b = 0; b < game.benAnswers; b++) {
                        for (int d = 0; d < game.benAnswers; d++) {
                            int first = game.winning[spotOf(ANN, x, y, a, b)];
                            int second = game.winning[spotOf(ANN, z, v, c, d)];
                            gains[to] = together * (onceIsEnough ? first | second : first & second);
                            to++;
                        }
                    }
                }
            }
        }

        private void loadWithItself(Game game) {
            setSizes(game.annQuestions * game.annQuestions, 2, game.benQuestions * game.benQuestions, 2);
            int to = 0;
            for (int x = 0; x < game.annQuestions; x++) {
                for (int z = 0; z < game.annQuestions; z++) {
                    loadWithItselfLines(game, x, z, to);
                    to += 2 * line;
                }
            }
        }

        private void loadWithItselfLines(Game game, int x, int z, int from) {
            int to = from;
            for (int y = 0; y < game.benQuestions; y++) {
                for (int v = 0; v < game.benQuestions; v++) {
                    int counts = game.signedWeight(x, y) * game.signedWeight(z, v);
                    // All answers of both turned round count the same, so Ann's first one may stay 0.
                    int turned = from == 0 ? counts : -counts;
                    gains[to] = counts;
                    gains[to + 1] = -counts;
                    gains[to + line] = turned;
                    gains[to + line + 1] = -turned;
                    to += 2;
                }
            }
        }

        private int rows() {
            int rows = 1;
            for (int question = 0; question < questions; question++) {
                rows *= answers;
            }
            return rows;
        }

        private void begin() {
            for (int question = 0; question < questions; question++) {
                row[question] = 0;
            }
            clearFirstSums();
            sumFrom(0);
        }

        private void step() {
            int question = questions - 1;
            while (question >= 0 && row[question] == answers - 1) {
                row[question] = 0;
                question--;
            }
            if (question >= 0) {
                row[question]++;
                sumFrom(question);
            }
        }

        private void clearFirstSums() {
            for (int i = 0; i < line; i++) {
                sums[i] = 0;
            }
        }

        private void sumFrom(int question) {
            for (int level = question; level < questions; level++) {
                addLine(level, row[level]);
            }
        }

        private void addLine(int level, int answer) {
            int from = level * line;
            int to = from + line;
            int gain = (level * answers + answer) * line;
            for (int i = 0; i < line; i++) {
                sums[to + i] = sums[from + i] + gains[gain + i];
            }
        }

        // The most, or the least, that the replies to one question bring against the whole row.
        private int highAt(int group) {
            int from = questions * line + group * replies;
            int high = sums[from];
            for (int i = from + 1; i < from + replies; i++) {
                high = Math.max(high, sums[i]);
            }
            return high;
        }

        private int lowAt(int group) {
            int from = questions * line + group * replies;
            int low = sums[from];
            for (int i = from + 1; i < from + replies; i++) {
                low = Math.min(low, sums[i]);
            }
            return low;
        }

        private int high() {
            int total = 0;
            for (int group = 0; group < groups; group++) {
                total += highAt(group);
            }
            return total;
        }

        private int low() {
            int total = 0;
            for (int group = 0; group < groups; group++) {
                total += lowAt(group);
            }
            return total;
        }

        private int leastLow() {
            int rows = rows();
            begin();
            int least = low();
            for (int i = 1; i < rows; i++) {
                step();
                least = Math.min(least, low());
            }
            return least;
        }

        private int mostLow() {
            int rows = rows();
            begin();
            int greatest = low();
            for (int i = 1; i < rows; i++) {
                step();
                greatest = Math.max(greatest, low());
            }
            return greatest;
        }

        private int firstRowOfLow(int wanted) {
            int rows = rows();
            begin();
            for (int i = 1; i < rows && low() != wanted; i++) {
                step();
            }
            return Duo.numberOf(row, questions);
        }

        private boolean isTopReply(int group, int reply) {
            return sums[questions * line + group * replies + reply] == highAt(group);
        }

        private int topReplies(int group) {
            int high = highAt(group);
            int from = questions * line + group * replies;
            int found = 0;
            for (int i = from; i < from + replies; i++) {
                if (sums[i] == high) {
                    found++;
                }
            }
            return found;
        }

        // In how many ways all groups from one on can have their top replies.
        private int topRowsFrom(int group) {
            int ways = 1;
            for (int later = group; later < groups; later++) {
                ways *= topReplies(later);
            }
            return ways;
        }

        private long countTops(int wanted) {
            int rows = rows();
            long found = 0;
            begin();
            for (int i = 0; i < rows; i++) {
                if (high() == wanted) {
                    found += topRowsFrom(0);
                }
                step();
            }
            return found;
        }

        private long countTopsLosing(Game game, int wanted, int x, int y) {
            int rows = rows();
            long found = 0;
            begin();
            for (int i = 0; i < rows; i++) {
                if (high() == wanted) {
                    found += topRowsLosing(game, x, y);
                }
                step();
            }
            return found;
        }

        private int topRowsLosing(Game game, int x, int y) {
            int ways = topRepliesLosing(game, x, y);
            for (int group = 0; group < groups; group++) {
                if (group != y) {
                    ways *= topReplies(group);
                }
            }
            return ways;
        }

        private int topRepliesLosing(Game game, int x, int y) {
            int found = 0;
            for (int reply = 0; reply < replies; reply++) {
                if (isTopReply(y, reply) && game.winning[spotOf(ANN, x, y, row[x], reply)] == 0) {
                    found++;
                }
            }
            return found;
        }

        private int rowOfTop(int wanted, int k, int player) {
            int rows = rows();
            int left = k;
            begin();
            for (int i = 0; i < rows; i++) {
                int ways = high() == wanted ? topRowsFrom(0) : 0;
                if (left < ways) {
                    if (player == ANN) {
                        return Duo.numberOf(row, questions);
                    }
                    findTopReplies(left);
                    return Duo.numberOf(replyRow, groups);
                }
                left -= ways;
                step();
            }
            return REFUSED;
        }

        // The k-th of the rows of top replies, into replyRow.
        private void findTopReplies(int k) {
            int left = k;
            for (int group = 0; group < groups; group++) {
                int ways = topRowsFrom(group + 1);
                replyRow[group] = topReplyAt(group, ways == 0 ? 0 : left / ways);
                left = ways == 0 ? 0 : left % ways;
            }
        }

        private int topReplyAt(int group, int place) {
            int left = place;
            for (int reply = 0; reply < replies; reply++) {
                if (isTopReply(group, reply)) {
                    if (left == 0) {
                        return reply;
                    }
                    left--;
                }
            }
            return 0;
        }

        // The most over all rows, if it is above the floor; else the floor, which some row must have.
        private int mostAbove(int floor) {
            most = floor;
            clearFirstSums();
            fillHopes();
            markNeedless();
            if (questions > 0 && hopeAt(0) > most) {
                search(this, 0);
            }
            return most;
        }

        private static void search(Table table, int level) {
            if (level >= table.questions || level >= MOST_LEVELS) {
                return;
            }
            for (int answer = 0; answer < table.answers; answer++) {
                if (!table.needless[level * table.answers + answer]) {
                    table.addLine(level, answer);
                    int hope = table.hopeAt(level + 1);
                    if (hope > table.most) {
                        if (level + 1 == table.questions) {
                            table.most = hope;
                        } else {
                            search(table, level + 1);
                        }
                    }
                }
            }
        }

        // From the last answer on, so that of answers alike the first one is left.
        private void markNeedless() {
            for (int question = 0; question < questions; question++) {
                int first = question * answers;
                for (int i = first; i < first + answers; i++) {
                    needless[i] = false;
                }
                for (int i = first + answers - 1; i >= first; i--) {
                    needless[i] = isCovered(i, first);
                }
            }
        }

        private boolean isCovered(int place, int first) {
            for (int i = first; i < first + answers; i++) {
                if (i != place && !needless[i] && covers(i * line, place * line)) {
                    return true;
                }
            }
            return false;
        }

        private boolean covers(int one, int two) {
            for (int i = 0; i < line; i++) {
                if (gains[one + i] < gains[two + i]) {
                    return false;
                }
            }
            return true;
        }

        private void fillHopes() {
            int last = questions * line;
            for (int i = 0; i < line; i++) {
                hopes[last + i] = 0;
            }
            for (int level = questions - 1; level >= 0; level--) {
                for (int i = 0; i < line; i++) {
                    hopes[level * line + i] = hopes[(level + 1) * line + i] + greatestGain(level, i);
                }
            }
        }

        private int greatestGain(int question, int place) {
            int at = question * answers * line + place;
            int greatest = gains[at];
            for (int answer = 1; answer < answers; answer++) {
                at += line;
                greatest = Math.max(greatest, gains[at]);
            }
            return greatest;
        }

        // No row that begins as the first answers do brings more; with all of them it is what they bring.
        private int hopeAt(int level) {
            int total = 0;
            int at = level * line;
            for (int group = 0; group < groups; group++) {
                int top = sums[at] + hopes[at];
                at++;
                for (int reply = 1; reply < replies; reply++) {
                    top = Math.max(top, sums[at] + hopes[at]);
                    at++;
                }
                total += top;
            }
            return total;
        }
    }

    /** How the questions hang together, and in which orders they look alike. */
    private static final class Shape {
        private final int[] marks = new int[2 * MOST_QUESTIONS];
        private final int[] looks = new int[MOST_QUESTIONS * MOST_QUESTIONS];
        private final int[] order = new int[MOST_QUESTIONS];

        private int partsOf(Game game) {
            markParts(game);
            int found = 0;
            for (int i = 0; i < marks.length; i++) {
                if (marks[i] == i) {
                    found++;
                }
            }
            return found;
        }

        private int greatestPartOf(Game game) {
            markParts(game);
            int greatest = 0;
            for (int mark = 0; mark < marks.length; mark++) {
                int size = 0;
                for (int i = 0; i < marks.length; i++) {
                    if (marks[i] == mark) {
                        size++;
                    }
                }
                greatest = Math.max(greatest, size);
            }
            return greatest;
        }

        // Ann's questions stand first; a part bears the least place of its questions as its mark.
        private void markParts(Game game) {
            for (int i = 0; i < MOST_QUESTIONS; i++) {
                marks[i] = i < game.annQuestions ? i : NONE;
                marks[MOST_QUESTIONS + i] = i < game.benQuestions ? MOST_QUESTIONS + i : NONE;
            }
            for (int x = 0; x < game.annQuestions; x++) {
                for (int y = 0; y < game.benQuestions; y++) {
                    if (game.weights[cellOf(ANN, x, y)] > 0) {
                        joinParts(marks[x], marks[MOST_QUESTIONS + y]);
                    }
                }
            }
        }

        private void joinParts(int one, int two) {
            int joined = Math.min(one, two);
            for (int i = 0; i < marks.length; i++) {
                if (marks[i] == one || marks[i] == two) {
                    marks[i] = joined;
                }
            }
        }

        private int ordersOf(Game game) {
            noteLooks(game);
            int orders = 1;
            for (int i = 2; i <= game.annQuestions; i++) {
                orders *= i;
            }
            int found = 0;
            for (int code = 0; code < orders; code++) {
                setOrder(code, game.annQuestions);
                found += ordersOfBen(game);
            }
            return found;
        }

        // Weight and wins of each x, y in one number, so that two of them are compared at once.
        private void noteLooks(Game game) {
            for (int x = 0; x < game.annQuestions; x++) {
                for (int y = 0; y < game.benQuestions; y++) {
                    int look = game.weights[cellOf(ANN, x, y)];
                    for (int a = 0; a < game.annAnswers; a++) {
                        for (int b = 0; b < game.benAnswers; b++) {
                            look = 2 * look + game.winning[spotOf(ANN, x, y, a, b)];
                        }
                    }
                    looks[cellOf(ANN, x, y)] = look;
                }
            }
        }

        private void setOrder(int code, int questions) {
            int left = code;
            int used = 0;
            for (int i = 0; i < questions; i++) {
                int open = questions - i;
                order[i] = freePlace(used, left % open, questions);
                left /= open;
                used |= 1 << order[i];
            }
        }

        private static int freePlace(int used, int skipped, int questions) {
            int left = skipped;
            for (int place = 0; place < questions; place++) {
                if ((used >> place & 1) == 0) {
                    if (left == 0) {
                        return place;
                    }
                    left--;
                }
            }
            return 0;
        }

        // Ben's questions that look alike are free among themselves, so taking any of them
        // leaves as many to the ones behind: the choices multiply.
        private int ordersOfBen(Game game) {
            int ways = 1;
            int used = 0;
            for (int y = 0; y < game.benQuestions && ways > 0; y++) {
                int choices = 0;
                int taken = 0;
                for (int z = 0; z < game.benQuestions; z++) {
                    if ((used >> z & 1) == 0 && looksLike(game.annQuestions, y, z)) {
                        choices++;
                        taken = z;
                    }
                }
                used |= 1 << taken;
                ways *= choices;
            }
            return ways;
        }

        private boolean looksLike(int annQuestions, int y, int z) {
            for (int x = 0; x < annQuestions; x++) {
                if (looks[cellOf(ANN, x, y)] != looks[cellOf(ANN, order[x], z)]) {
                    return false;
                }
            }
            return true;
        }
    }

    /** Writes a game as a text, of which one byte is looked for and the others are counted. */
    private static final class Scribe {
        private int wanted = NONE;
        private int found = 0;
        private int length = 0;

        private int write(Game game, int wantedPlace) {
            wanted = wantedPlace;
            length = 0;
            if (!game.isTold()) {
                return 0;
            }
            writeWord("game");
            writeNumber(game.annQuestions);
            writeNumber(game.benQuestions);
            writeNumber(game.annAnswers);
            writeNumber(game.benAnswers);
            writeWeights(game);
            writeSpots(game, ";win", game.winning, false);
            writeSpots(game, ";box", game.boxes, true);
            return length;
        }

        private void writeWeights(Game game) {
            for (int x = 0; x < game.annQuestions; x++) {
                for (int y = 0; y < game.benQuestions; y++) {
                    int weight = game.weights[cellOf(ANN, x, y)];
                    if (weight != 1) {
                        writeWord(";weight");
                        writeNumber(x);
                        writeNumber(y);
                        writeNumber(weight);
                    }
                }
            }
        }

        private void writeSpots(Game game, String word, int[] entries, boolean withEntry) {
            for (int x = 0; x < game.annQuestions; x++) {
                for (int y = 0; y < game.benQuestions; y++) {
                    for (int a = 0; a < game.annAnswers; a++) {
                        for (int b = 0; b < game.benAnswers; b++) {
                            int entry = entries[spotOf(ANN, x, y, a, b)];
                            if (entry != 0) {
                                writeWord(word);
                                writeSpot(x, y, a, b);
                                writeEntry(entry, withEntry);
                            }
                        }
                    }
                }
            }
        }

        private void writeSpot(int x, int y, int a, int b) {
            writeNumber(x);
            writeNumber(y);
            writeNumber(a);
            writeNumber(b);
        }

        private void writeEntry(int entry, boolean wantsIt) {
            if (wantsIt) {
                writeNumber(entry);
            }
        }

        private void writeWord(String word) {
            for (int i = 0; i < word.length(); i++) {
                put(word.charAt(i));
            }
        }

        // Every number in a text stands behind one blank and has two digits at the most.
        private void writeNumber(int number) {
            put(' ');
            if (number >= 10) {
                put('0' + number / 10);
            }
            put('0' + number % 10);
        }

        private void put(int letter) {
            if (length == wanted) {
                found = letter;
            }
            length++;
        }
    }
}
