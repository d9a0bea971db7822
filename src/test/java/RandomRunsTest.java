import java.util.Random;

/**
 * Runs of calls, the same each time, on ApartGames and on Naive: all answers must be alike.
 * The seeds are fixed; the games stay small enough for Naive where a call is dear to it.
 */
public final class RandomRunsTest {
    private static final String[] HEADS = {"game 1 1 2 2", "game 2 2 2 2", "game 2 2 2 2", "game 2 2 3 3",
        "game 3 2 2 2", "game 2 3 2 4", "game 1 3 4 3", "game 3 3 2 2", "game 4 2 2 2", "game 5 1 2 3",
        "game 1 5 3 2", "game 4 5 2 2", "game 5 5 2 2", "game 2 1 4 4", "game 3 2 3 2"};
    private static final String[] WORDS = {"win", "even", "odd", "alike", "unlike", "weight", "box"};
    private static final int CALLS = 500;

    private final Random random;
    private final int run;
    private final ApartGames games = new ApartGames();
    private final Naive naive = new Naive();
    private int call = 0;

    private RandomRunsTest(int run) {
        this.run = run;
        random = new Random(7919L * run + 13);
    }

    public static void main(String[] args) {
        for (int run = 0; run < 260; run++) {
            new RandomRunsTest(run).go();
        }
        Due.end("RandomRunsTest");
    }

    private void due(String name, long got, long want) {
        call++;
        Due.is("run " + run + ", call " + call + ": " + name, got, want);
    }

    private void go() {
        boolean parityAlone = run % 3 == 0;
        if (run % 10 != 0) {
            tell(gameText(parityAlone));
        }
        while (call < CALLS) {
            int kind = random.nextInt(100);
            if (kind < 3) {
                tell(gameText(parityAlone));
            } else if (kind < 6) {
                tell(spoilt(gameText(random.nextBoolean())));
            } else if (kind < 10) {
                undoOrKeep();
            } else if (kind < 40) {
                act(parityAlone);
            } else if (kind < 70) {
                askCheap();
            } else {
                askDear();
            }
        }
    }

    // ---- texts

    private String gameText(boolean parityAlone) {
        String head = HEADS[random.nextInt(HEADS.length)];
        int nx = head.charAt(5) - '0';
        int ny = head.charAt(7) - '0';
        int na = head.charAt(9) - '0';
        int nb = head.charAt(11) - '0';
        StringBuilder text = new StringBuilder(head);
        for (int i = random.nextInt(25); i > 0 && text.length() < 370; i--) {
            int x = random.nextInt(nx);
            int y = random.nextInt(ny);
            String word = WORDS[random.nextInt(WORDS.length)];
            text.append(';').append(word).append(' ').append(x).append(' ').append(y);
            if (word.equals("weight")) {
                text.append(' ').append(random.nextInt(10));
            }
            if (word.equals("win") || word.equals("box")) {
                text.append(' ').append(random.nextInt(na)).append(' ').append(random.nextInt(nb));
            }
            if (word.equals("box")) {
                text.append(' ').append(random.nextInt(13));
            }
        }
        if (parityAlone && na == 2 && nb == 2) {
            return parityText(head, nx, ny);
        }
        return text.toString();
    }

    private String parityText(String head, int nx, int ny) {
        StringBuilder text = new StringBuilder(head);
        for (int x = 0; x < nx; x++) {
            for (int y = 0; y < ny; y++) {
                text.append(random.nextBoolean() ? ";odd" : ";even").append(x).append(' ').append(y);
            }
        }
        for (int i = random.nextInt(12); i > 0; i--) {
            text.append(";weight").append(random.nextInt(nx)).append(' ').append(random.nextInt(ny));
            text.append(' ').append(random.nextInt(10));
        }
        return text.toString();
    }

    private String spoilt(String text) {
        StringBuilder made = new StringBuilder(text);
        String signs = "  ;;0123456789abegimnowx\0\u00ff{~G-";
        for (int i = random.nextInt(3); i >= 0; i--) {
            int at = random.nextInt(made.length());
            char sign = signs.charAt(random.nextInt(signs.length()));
            switch (random.nextInt(4)) {
                case 0:
                    made.setCharAt(at, sign);
                    break;
                case 1:
                    made.insert(at, sign);
                    break;
                case 2:
                    made.insert(at, "   ");
                    break;
                default:
                    made.setLength(Math.max(1, at));
                    break;
            }
        }
        return made.toString();
    }

    private void tell(String text) {
        for (int at = 0; at < text.length(); at += 20) {
            int a = Told.four(text, at);
            int b = Told.four(text, at + 4);
            int c = Told.four(text, at + 8);
            int d = Told.four(text, at + 12);
            int e = Told.four(text, at + 16);
            due("feed for " + text, games.feed(a, b, c, d, e), naive.feed(a, b, c, d, e));
        }
        int length = text.length() + (random.nextInt(8) == 0 ? random.nextInt(5) - 2 : 0);
        due("end(" + length + ")", games.end(length), naive.end(length));
        due("count(6)", games.count(6), naive.count(6));
        due("tell() of " + text, games.tell(), naive.tell());
    }

    // ---- numbers, now and then one that is not there

    private int upTo(int questions) {
        int kind = random.nextInt(16);
        return kind == 0 ? questions : kind == 1 ? -1 : questions == 0 ? 0 : random.nextInt(questions);
    }

    private int player() {
        return upTo(2);
    }

    private int x() {
        return upTo(naive.count(0));
    }

    private int y() {
        return upTo(naive.count(1));
    }

    private int a() {
        return upTo(naive.count(2));
    }

    private int b() {
        return upTo(naive.count(3));
    }

    private int question(int player) {
        return player == 0 ? x() : y();
    }

    private int answer(int player) {
        return player == 0 ? a() : b();
    }

    private int row(int player) {
        int questions = naive.count(player == 0 ? 0 : 1);
        int answers = naive.count(player == 0 ? 2 : 3);
        int row = 0;
        for (int i = 0; i < questions; i++) {
            row = 10 * row + random.nextInt(answers);
        }
        int kind = random.nextInt(16);
        return kind == 0 ? row + answers : kind == 1 ? -row : kind == 2 ? row * 10 : row;
    }

    // ---- calls

    private void undoOrKeep() {
        int shelf = upTo(2);
        switch (random.nextInt(5)) {
            case 0:
                due("keep(" + shelf + ")", games.keep(shelf), naive.keep(shelf));
                break;
            case 1:
                due("back(" + shelf + ")", games.back(shelf), naive.back(shelf));
                break;
            default:
                for (int i = random.nextInt(12); i >= 0; i--) {
                    due("undo()", games.undo(), naive.undo());
                }
                break;
        }
        due("letter(-1)", games.letter(-1), naive.letter(-1));
        due("count(5)", games.count(5), naive.count(5));
        due("count(7)", games.count(7), naive.count(7));
    }

    private void act(boolean parityAlone) {
        int x = x();
        int y = y();
        int a = a();
        int b = b();
        int n = random.nextInt(16) - 1;
        switch (random.nextInt(parityAlone ? 10 : 16)) {
            case 0:
            case 1:
                due("weigh", games.weigh(x, y, n), naive.weigh(x, y, n));
                break;
            case 2:
            case 3:
                int s = upTo(2);
                due("parity", games.parity(x, y, s), naive.parity(x, y, s));
                break;
            case 4:
                exchange();
                break;
            case 5:
                due("swap()", games.swap(), naive.swap());
                break;
            case 6:
                int who = player();
                int gone = question(who);
                due("drop", games.drop(who, gone), naive.drop(who, gone));
                break;
            case 7:
                int player = player();
                int question = question(player);
                due("copy", games.copy(player, question), naive.copy(player, question));
                break;
            case 8:
                due("box", games.box(x, y, a, b, n), naive.box(x, y, a, b, n));
                break;
            case 9:
            case 10:
                int r = row(0);
                int t = row(1);
                int more = random.nextInt(6) - 1 + random.nextInt(2) * 8;
                due("mix", games.mix(r, t, more), naive.mix(r, t, more));
                break;
            case 11:
                int seed = random.nextInt();
                due("draw", games.draw(seed), naive.draw(seed));
                break;
            default:
                due("decide", games.decide(x, y, a, b), naive.decide(x, y, a, b));
                break;
        }
    }

    private void exchange() {
        int player = player();
        int question = question(player);
        int one = answer(player);
        int other = answer(player);
        due("exchange", games.exchange(player, question, one, other),
                naive.exchange(player, question, one, other));
    }

    private void askCheap() {
        int x = x();
        int y = y();
        int player = player();
        int question = question(player);
        int one = answer(player);
        int other = answer(player);
        int what = random.nextInt(10) - 1;
        int place = random.nextInt(400) - 3;
        switch (random.nextInt(11)) {
            case 0:
                int a = a();
                int b = b();
                due("wins", games.wins(x, y, a, b), naive.wins(x, y, a, b));
                break;
            case 1:
                due("weight", games.weight(x, y), naive.weight(x, y));
                break;
            case 2:
                int r = row(0);
                due("hangs", games.hangs(r, y), naive.hangs(r, y));
                break;
            case 3:
                due("lesser", games.lesser(player, question, one, other),
                        naive.lesser(player, question, one, other));
                break;
            case 4:
                int second = question(player);
                due("same", games.same(player, question, second), naive.same(player, question, second));
                break;
            case 5:
                due("sign", games.sign(x, y), naive.sign(x, y));
                break;
            case 6:
                int asked = question(1 - player);
                due("marginal", games.marginal(player, question, one, asked),
                        naive.marginal(player, question, one, asked));
                break;
            case 7:
                due("letter(" + place + ")", games.letter(place), naive.letter(place));
                break;
            case 8:
                wholeText();
                break;
            case 9:
                int ann = row(0);
                int ben = row(1);
                due("play(" + ann + ", " + ben + ")", games.play(ann, ben), naive.play(ann, ben));
                break;
            default:
                due("count(" + what + ")", games.count(what), naive.count(what));
                break;
        }
    }

    // Calls that change nothing, so their number does not matter to the runs.
    private void wholeText() {
        if (random.nextInt(10) == 0) {
            Due.holds("run " + run + ", call " + call + ": text", Told.letters(games).equals(naive.text()));
        }
    }

    private void askDear() {
        double rows = Math.pow(naive.count(2), naive.count(0)) * Math.pow(naive.count(3), naive.count(1));
        if (rows > 1100) {
            askCheap();
            return;
        }
        int what = random.nextInt(6) - 1;
        switch (random.nextInt(15)) {
            case 0:
                due("worth(" + what + ")", games.worth(what), naive.worth(what));
                break;
            case 1:
                int player = player();
                due("sure(" + player + ")", games.sure(player), naive.sure(player));
                break;
            case 2:
                due("bests()", games.bests(), naive.bests());
                break;
            case 3:
                int k = random.nextInt(20) - 1;
                int whose = player();
                due("best(" + k + ", " + whose + ")", games.best(k, whose), naive.best(k, whose));
                break;
            case 4:
                int x = x();
                int y = y();
                due("lost", games.lost(x, y), naive.lost(x, y));
                due("cut", games.cut(x, y), naive.cut(x, y));
                break;
            case 5:
                due("mean(" + what + ")", games.mean(what), naive.mean(what));
                break;
            case 6:
                due("talk(" + what + ")", games.talk(what), naive.talk(what));
                break;
            case 7:
                int who = player();
                int question = question(who);
                due("without", games.without(who, question), naive.without(who, question));
                break;
            case 8:
                int ann = row(0);
                int ben = row(1);
                due("climb(" + ann + ", " + ben + ", " + what + ")", games.climb(ann, ben, what),
                        naive.climb(ann, ben, what));
                break;
            case 9:
                due("parts(" + what + ")", games.parts(what), naive.parts(what));
                break;
            case 10:
                due("bias(" + what + ")", games.bias(what), naive.bias(what));
                break;
            case 11:
                due("boxed(" + what + ")", games.boxed(what), naive.boxed(what));
                break;
            case 12:
                int to = player();
                int row = row(1 - to);
                due("reply(" + to + ", " + row + ")", games.reply(to, row), naive.reply(to, row));
                break;
            case 13:
                if (random.nextInt(6) == 0 && naive.count(0) + naive.count(1) < 8) {
                    due("symmetries()", games.symmetries(), naive.symmetries());
                }
                break;
            default:
                askTwice(what);
                break;
        }
    }

    private void askTwice(int what) {
        double rows = Math.pow(naive.count(2), 2.0 * naive.count(0) * naive.count(0));
        if (rows > 70000 || rows < 300 || rows < 7000 && random.nextInt(2) == 0) {
            due("twice(" + what + ")", games.twice(what), naive.twice(what));
        }
        if (naive.count(0) != 4 || random.nextInt(20) == 0) {
            due("product()", games.product(), naive.product());
        }
    }
}
