/** Sentence by sentence: the first part of the terms, and promises 1 to 4. */
public final class TextSentencesTest {
    private static final int NONE = ApartGames.NONE;
    private static final int MIN = Sentences.MIN;
    private static final int MAX = Sentences.MAX;

    private TextSentencesTest() {
    }

    public static void main(String[] args) throws java.io.IOException {
        Sentences.open(args, "I", "1", "2", "3", "4");
        sizes();
        entries();
        head();
        weights();
        boxes();
        winning();
        wordsAndBlanks();
        faultKindOne();
        textEnds();
        faultKindTwo();
        faultOrder();
        newObject();
        feed();
        end();
        tellPlace();
        tellFault();
        Sentences.end("TextSentencesTest");
    }

    private static void told(String text, String letters) {
        ApartGames g = new ApartGames();
        Due.is("tell() of '" + text + "'", Told.tell(g, text), letters.charAt(5) - '0');
        Due.is("'" + text + "' told", Told.letters(g), letters);
    }

    private static void fault(String text, int place, int kind) {
        ApartGames g = new ApartGames();
        Due.is("tell() of '" + text + "'", Told.tell(g, text), -2 - (8 * place + kind));
        Due.is("no game by '" + text + "'", g.count(0), 0);
    }

    private static String repeat(char sign, int times) {
        StringBuilder made = new StringBuilder();
        for (int i = 0; i < times; i++) {
            made.append(sign);
        }
        return made.toString();
    }

    // ---- part I

    private static void sizes() {
        Sentences.says("I", "ANN has QUESTIONS x 0, 1, .. (1 to 5 of them), BEN QUESTIONS y (1 to 5), "
                + "ANSWERS a, b 0, 1, .. (2 to 4 each)");
        for (int nx = 0; nx <= 6; nx++) {
            for (int ny = 0; ny <= 6; ny++) {
                size(nx, ny, 2, 2);
            }
        }
        for (int na = 0; na <= 5; na++) {
            for (int nb = 0; nb <= 5; nb++) {
                size(1, 1, na, nb);
            }
        }
    }

    private static void size(int nx, int ny, int na, int nb) {
        ApartGames g = new ApartGames();
        String text = "game " + nx + " " + ny + " " + na + " " + nb;
        int place = nx < 1 || nx > 5 ? 5 : ny < 1 || ny > 5 ? 7 : na < 2 || na > 4 ? 9 : nb < 2 || nb > 4 ? 11 : 0;
        Due.is("tell() of " + text, Told.tell(g, text), place == 0 ? nx : -2 - (8 * place + 2));
        int[] due = place == 0 ? new int[] {nx, ny, na, nb} : new int[4];
        for (int what = 0; what < 4; what++) {
            Due.is("count(" + what + ") of " + text, g.count(what), due[what]);
        }
    }

    private static void entries() {
        Sentences.says("I", "Of each x, y a WEIGHT 0 to 9");
        for (int n = 0; n <= 9; n++) {
            told("game 1 1 2 2;weight 0 0 " + n, n == 1 ? "game 1 1 2 2" : "game 1 1 2 2;weight 0 0 " + n);
        }
        fault("game 1 1 2 2;weight 0 0 10", 24, 2);
        Sentences.says("I", "of each x, y, a, b whether it WINS, and the BOX 0 to 12 (twelfths)");
        for (int n = 0; n <= 12; n++) {
            told("game 1 1 2 2;box 0 0 1 0 " + n, n == 0 ? "game 1 1 2 2" : "game 1 1 2 2;box 0 0 1 0 " + n);
        }
        fault("game 1 1 2 2;box 0 0 1 0 13", 25, 2);
    }

    private static void head() {
        Sentences.says("I", "A TEXT of at most 400 bytes tells a GAME");
        told("game 1 1 2 2" + repeat(' ', 388), "game 1 1 2 2");
        told(repeat(' ', 388) + "game 1 1 2 2", "game 1 1 2 2");
        // 400 bytes to the last: 31 times 12, 14 blanks, and a part of 14.
        StringBuilder full = new StringBuilder("game 5 5 2 2");
        for (int i = 0; i < 30; i++) {
            full.append(";win 4 4 0 1");
        }
        full.append(repeat(' ', 14));
        told(full + ";win 4 3 1 001", "game 5 5 2 2;win 4 3 1 1;win 4 4 0 1");
        fault(full + ";win 4 3 1 002", 397, 2);
        fault(full + ";win 4 3 1 00x", 399, 1);
        fault(full + ";win  4  3  1 ", 400, 1);
        Sentences.says("I", "game NUMBER NUMBER NUMBER NUMBER { ; PART } (QUESTIONS of ANN, of BEN, "
                + "ANSWERS of ANN, of BEN)");
        told("game 3 4 2 3", "game 3 4 2 3");
        told("game 3 4 2 3;even 2 3", "game 3 4 2 3;win 2 3 0 0;win 2 3 0 2;win 2 3 1 1");
    }

    private static void weights() {
        Sentences.says("I", "PART: weight X Y NUMBER (1 without; the last one counts)");
        ApartGames g = Told.game("game 2 3 2 2;weight 1 2 4;weight 0 0 3;weight 1 2 0;weight 0 0 9;weight 0 0 1");
        int[] due = {1, 1, 1, 1, 1, 0};
        for (int i = 0; i < 6; i++) {
            Due.is("weight " + i, g.weight(i / 3, i % 3), due[i]);
        }
        fault("game 2 3 2 2;weight 2 0 1", 20, 2);
        fault("game 2 3 2 2;weight 1 3 1", 22, 2);
        told("game 2 3 2 2;weight 1 2 9", "game 2 3 2 2;weight 1 2 9");
    }

    private static void boxes() {
        Sentences.says("I", "box X Y A B NUMBER (0 without; the last one counts)");
        told("game 2 3 4 2;box 1 2 3 1 12;box 0 0 0 0 5;box 1 2 3 1 3;box 0 0 0 0 0", "game 2 3 4 2;box 1 2 3 1 3");
        told("game 2 3 4 2;box 1 2 3 1 3;box 1 2 3 1 12", "game 2 3 4 2;box 1 2 3 1 12");
        fault("game 2 3 4 2;box 2 0 0 0 1", 17, 2);
        fault("game 2 3 4 2;box 0 3 0 0 1", 19, 2);
        fault("game 2 3 4 2;box 0 0 4 0 1", 21, 2);
        fault("game 2 3 4 2;box 0 0 0 2 1", 23, 2);
    }

    private static void winning() {
        Sentences.says("I", "win X Y A B | even X Y | odd X Y | alike X Y | unlike X Y");
        told("game 3 2 3 4;win 2 1 2 3", "game 3 2 3 4;win 2 1 2 3");
        String[] words = {"even", "odd", "alike", "unlike"};
        for (String word : words) {
            String text = "game 3 2 3 4;" + word;
            fault(text + " 3 0", text.length() + 1, 2);
            fault(text + " 0 2", text.length() + 3, 2);
            fault(text + " 0 0 0", text.length() + 5, 1);
        }
        fault("game 3 2 3 4;win 3 0 0 0", 17, 2);
        fault("game 3 2 3 4;win 0 2 0 0", 19, 2);
        fault("game 3 2 3 4;win 0 0 3 0", 21, 2);
        fault("game 3 2 3 4;win 0 0 0 4", 23, 2);
        Sentences.says("I", "By win, even (a and b together are even), odd, alike (a is b), unlike all those WIN, too");
        for (int word = 0; word < 4; word++) {
            for (int na = 2; na <= 4; na++) {
                for (int nb = 2; nb <= 4; nb++) {
                    wordWins(words[word], word, na, nb);
                }
            }
        }
        Sentences.says("I", "what was told ahead goes on to WIN");
        ApartGames g = Told.game("game 1 1 2 3;win 0 0 0 1;even 0 0;win 0 0 0 0;alike 0 0");
        Due.is("win and even and alike", Told.letters(g), "game 1 1 2 3;win 0 0 0 0;win 0 0 0 1;win 0 0 0 2;win 0 0 1 1");
        Due.is("odd and even", Told.game("game 1 1 4 4;odd 0 0;even 0 0").count(4), 16);
        Due.is("unlike and alike", Told.game("game 1 1 4 4;unlike 0 0;alike 0 0").count(4), 16);
    }

    private static void wordWins(String word, int kind, int na, int nb) {
        ApartGames g = Told.game("game 2 2 " + na + " " + nb + ";" + word + " 1 0");
        int found = 0;
        for (int a = 0; a < na; a++) {
            for (int b = 0; b < nb; b++) {
                boolean[] due = {(a + b) % 2 == 0, (a + b) % 2 == 1, a == b, a != b};
                Due.is(word + " at " + a + ", " + b, g.wins(1, 0, a, b), due[kind] ? 1 : 0);
                found += due[kind] ? 1 : 0;
            }
        }
        Due.is("no more by " + word, g.count(4), found);
    }

    private static void wordsAndBlanks() {
        Sentences.says("I", "WORDS are small letters, NUMBERS digits, as far as they go on");
        told("game1 1 2 2;even0 0;weight0 0 5", "game 1 1 2 2;weight 0 0 5;win 0 0 0 0;win 0 0 1 1");
        fault("gamee 1 1 2 2", 0, 1);
        fault("game 1 1 2 2;wins 0 0 0 0", 13, 1);
        fault("game 1 1 2 2;unlikealike 0 0", 13, 1);
        fault("game 11 2 2", 5, 2);
        fault("game 1 1 22", 9, 2);
        // Noughts ahead make a number no other.
        told("game 01 001 0002 00000002;weight 000 0 09", "game 1 1 2 2;weight 0 0 9");
        told("game 1 1 2 2;box 0 0 0 0 " + repeat('0', 300) + "12", "game 1 1 2 2;box 0 0 0 0 12");
        // Great ones do not come round to be small again.
        fault("game 4294967297 1 2 2", 5, 2);
        fault("game 18446744073709551617 1 2 2", 5, 2);
        fault("game 1 1 2 2;weight 0 0 1000000000000", 24, 2);
        fault("game 1 1 2 2;weight 0 0 " + repeat('9', 376), 24, 2);
        Sentences.says("I", "blanks (32) stand between as one likes");
        told("   game   1   1   2   2   ;   even   0   0   ;   weight   0   0   5   ",
                "game 1 1 2 2;weight 0 0 5;win 0 0 0 0;win 0 0 1 1");
        told("game 1 1 2 2;even 0 0", "game 1 1 2 2;win 0 0 0 0;win 0 0 1 1");
        fault("ga me 1 1 2 2", 0, 1);
        fault("game 1 1 2 2;weight 0 0 1 0", 26, 1);
        for (int sign : new int[] {0, 9, 10, 13, 31, 33, 95, 160, 255}) {
            fault("game" + (char) sign + "1 1 2 2", 4, 1);
            fault((char) sign + "game 1 1 2 2", 0, 1);
            fault("game 1 1 2 2" + (char) sign, 12, 1);
        }
    }

    private static void faultKindOne() {
        Sentences.says("I", "1 a byte or WORD that cannot stand there");
        fault("xame 1 1 2 2", 0, 1);
        fault("GAME 1 1 2 2", 0, 1);
        fault("; 1 1 2 2", 0, 1);
        fault("1 1 1 2 2", 0, 1);
        fault("gam 1 1 2 2", 0, 1);
        fault("even 0 0", 0, 1);
        fault("game;1 1 2 2", 4, 1);
        fault("game game 1 1 2 2", 5, 1);
        fault("game 1, 1 2 2", 6, 1);
        fault("game 1 a 2 2", 7, 1);
        fault("game 1 1;2 2", 8, 1);
        fault("game 1 1 2 -2", 11, 1);
        fault("game 1 1 2 +2", 11, 1);
        fault("game 1 1 2 2 2", 13, 1);
        fault("game 1 1 2 2 even 0 0", 13, 1);
        fault("game 1 1 2 2:even 0 0", 12, 1);
        fault("game 1 1 2 2;0 0", 13, 1);
        fault("game 1 1 2 2;;even 0 0", 13, 1);
        fault("game 1 1 2 2;part 0 0", 13, 1);
        fault("game 1 1 2 2;Even 0 0", 13, 1);
        fault("game 1 1 2 2;even 0 0;", 22, 1);
        fault("game 1 1 2 2;even x 0", 18, 1);
        fault("game 1 1 2 2;even 0 -1", 20, 1);
        fault("game 1 1 2 2;win 0 0 0;0", 22, 1);
        fault("game 1 1 2 2;weight 0 0 1 1", 26, 1);
        fault("game 1 1 2 2;box 0 0 0 0 1 1", 27, 1);
        // A number, however wrong, that cannot stand there at all is a byte that cannot.
        fault("game 1 1 2 2 99", 13, 1);
        String[] words = {"weight", "win", "even", "odd", "alike", "unlike", "box"};
        for (String word : words) {
            fault("game 1 1 2 2;" + word.substring(0, word.length() - 1) + " 0 0 0 0 0", 13, 1);
            fault("game 1 1 2 2;" + word + "s 0 0 0 0 0", 13, 1);
            fault("game 1 1 2 2;" + word.substring(1) + " 0 0 0 0 0", 13, 1);
        }
        // The bytes beside the letters and the digits.
        fault("game`1 1 2 2", 4, 1);
        fault("gamez 1 1 2 2", 0, 1);
        fault("gamea 1 1 2 2", 0, 1);
        fault("agame 1 1 2 2", 0, 1);
        fault("game{1 1 2 2", 4, 1);
        fault("game 1 1 2 2;eve`", 13, 1);
        fault("game 1 1 2 2;zz 0 0", 13, 1);
        fault("game 1/1 2 2", 6, 1);
        fault("game 1:1 2 2", 6, 1);
    }

    private static void textEnds() {
        Sentences.says("I", "or the text ends (the place behind its last byte)");
        fault("", 0, 1);
        fault(" ", 1, 1);
        fault(repeat(' ', 400), 400, 1);
        String text = "game 1 1 2 2;weight 0 0 3;win 0 0 1 0;box 0 0 1 0 12;even 0 0;odd 0 0;alike 0 0;unlike 0 0";
        for (int length = 0; length <= text.length(); length++) {
            prefix(text, length);
        }
        fault("game 1 1 2 2;  ", 15, 1);
        fault("game 1 1 2 2;even 0  ", 21, 1);
        fault("game 1 1 2 2;even", 17, 1);
    }

    // A text cut off: within a word the word is wrong, else the text ends where something is due yet.
    private static void prefix(String text, int length) {
        String cut = text.substring(0, length);
        String part = cut.substring(cut.lastIndexOf(';') + 1);
        String word = part.replaceAll(" .*", "");
        int numbers = part.split(" ", -1).length - 1 - (part.endsWith(" ") ? 1 : 0);
        int due = word.equals("game") || word.equals("win") ? 4 : word.equals("weight") ? 3 : word.equals("box") ? 5 : 2;
        boolean isWord = (" game weight win even odd alike unlike box ").contains(" " + word + " ");
        if (!isWord) {
            fault(cut, word.isEmpty() ? length : cut.length() - part.length(), 1);
        } else if (numbers < due) {
            fault(cut, length, 1);
        } else {
            Due.is("tell() of '" + cut + "'", Told.tell(new ApartGames(), cut), 1);
        }
    }

    private static void faultKindTwo() {
        Sentences.says("I", "2 a NUMBER (where it begins) that is not as told");
        fault("game 6 1 2 2", 5, 2);
        fault("game   006 1 2 2", 7, 2);
        fault("game 1 1 2 2;even 0    1", 23, 2);
        fault("game 1 1 2 2;even 0    00001", 23, 2);
        fault("game 5 5 4 4;win 4 4 3 4", 23, 2);
        fault("game 5 5 4 4;win 5 4 3 3", 17, 2);
        fault("game 1 2 2 2;even 1 0", 18, 2);
        fault("game 2 1 2 2;even 0 1", 20, 2);
        fault("game 1 1 2 3;win 0 0 2 0", 21, 2);
        fault("game 1 1 3 2;win 0 0 0 2", 23, 2);
        told("game 1 1 2 3;win 0 0 0 2", "game 1 1 2 3;win 0 0 0 2");
        told("game 1 1 3 2;win 0 0 2 0", "game 1 1 3 2;win 0 0 2 0");
    }

    private static void faultOrder() {
        Sentences.says("I", "FAULT of a text that is none: of the first place along it that is wrong (0 the first byte), "
                + "8 times the place and");
        fault("game 9 9 9 9", 5, 2);
        fault("game 1 9 x 9", 7, 2);
        fault("game 1 x 9 9", 7, 1);
        fault("game 1 1 2 2;even 7 x", 18, 2);
        fault("game 1 1 2 2;even x 7", 18, 1);
        fault("game 1 1 2 2;even 0 0;odd 0 7;win x", 28, 2);
        fault("?", 0, 1);
        Sentences.says("I", "Of one place the least");
        fault("game 1 1 2 2 7", 13, 1);
        fault("7", 0, 1);
        fault("game 1 1 2 2;77 0 0", 13, 1);
    }

    // ---- promises 1 to 4

    private static void newObject() {
        Sentences.says(1, "No GAME");
        ApartGames g = new ApartGames();
        for (int what = 0; what < 8; what++) {
            Due.is("count(" + what + ")", g.count(what), 0);
        }
        Due.is("letter(NONE)", g.letter(NONE), 0);
        Due.is("worth(1)", g.worth(1), NONE);
        Due.is("undo()", g.undo(), NONE);
        Due.is("back(0)", g.back(0), -2);
        Due.is("back(1)", g.back(1), -2);
        Due.is("tell() of nothing fed", g.tell(), -3);
        Due.is("another new object has none", new ApartGames().count(0), 0);
    }

    private static void feed() {
        Sentences.says(2, "Twenty bytes come behind the TAPE, of each number the highest first: how many it has");
        ApartGames g = new ApartGames();
        Due.is("feed()", g.feed(0x67616d65, 0x20322035, 0x20332034, 0x3b77696e, 0x20312034), 20);
        Due.is("feed() behind", g.feed(0x20322033, 0, 0, 0, 0), 40);
        Due.is("end(24)", g.end(24), 24);
        Due.is("tell()", g.tell(), 2);
        Due.is("told", Told.letters(g), "game 2 5 3 4;win 1 4 2 3");
        // Behind a tape of any length, not behind what was cut off.
        g.feed(0x67616d65, 0x78787878, 0x78787878, 0x78787878, 0x78787878);
        g.end(4);
        Due.is("feed() behind 4", g.feed(0x20312032, 0x20322033, 0, 0, 0), 24);
        g.end(12);
        Due.is("tell() of both", g.tell(), 1);
        Due.is("told of both", Told.letters(g), "game 1 2 2 3");
        // Bytes above 127 stay what they are, and spoil none ahead of them.
        bytesOf(0x20202080, 3);
        bytesOf(0x2020ff20, 2);
        bytesOf(0x20802020, 1);
        bytesOf(0x80202020, 0);
        bytesOf(MIN, 0);
        bytesOf(MAX, 0);
        bytesOf(-1, 0);
        Sentences.says(2, "NONE, and none comes, if it would have more than 400");
        String game = "game 1 1 2 2";
        for (int length = 379; length <= 400; length++) {
            ApartGames h = new ApartGames();
            Told.lay(h, game + repeat(' ', length - 12));
            Due.is("feed() behind " + length, h.feed(-1, -1, -1, -1, -1), length <= 380 ? length + 20 : NONE);
            Due.is("count(6)", h.count(6), length <= 380 ? length + 20 : length);
            Due.is("tell()", h.tell(), length <= 380 ? -2 - (8 * length + 1) : 1);
        }
        g = new ApartGames();
        for (int n = 20; n <= 400; n += 20) {
            Due.is("feed() to " + n, g.feed(0, 0, 0, 0, 0), n);
        }
        Due.is("feed() of a full tape", g.feed(0, 0, 0, 0, 0), NONE);
        Due.is("feed() of a full tape again", g.feed(0, 0, 0, 0, 0), NONE);
        Due.is("tell() of a full tape", g.tell(), -3);
        Due.is("feed() behind tell()", g.feed(0, 0, 0, 0, 0), 20);
    }

    private static void bytesOf(int number, int place) {
        ApartGames g = new ApartGames();
        g.feed(number, number, number, number, number);
        Due.is("tell() of five times " + number, g.tell(), -2 - (8 * place + 1));
    }

    private static void end() {
        Sentences.says(3, "The TAPE has its first n bytes alone: n");
        ApartGames g = new ApartGames();
        Due.is("end(0) of an empty tape", g.end(0), 0);
        Told.lay(g, "game 1 1 2 2;even 0 0;x");
        Due.is("end(23) of 23", g.end(23), 23);
        Due.is("end(21)", g.end(21), 21);
        Due.is("count(6)", g.count(6), 21);
        Due.is("tell()", g.tell(), 1);
        Due.is("end(0) behind tell()", g.end(0), 0);
        Told.lay(g, "game");
        Due.is("end(0) of 4", g.end(0), 0);
        Due.is("tell() of what was ended", g.tell(), -3);
        Sentences.says(3, "NONE, and nothing happens, if it has not so many, or n is below 0");
        Due.is("end(1) of an empty tape", g.end(1), NONE);
        Sentences.refused("end(13) of 12", h -> h.end(13), NONE);
        Sentences.refused("end(400) of 12", h -> h.end(400), NONE);
        Sentences.refused("end(MAX)", h -> h.end(MAX), NONE);
        Sentences.refused("end(-1)", h -> h.end(-1), NONE);
        Sentences.refused("end(MIN)", h -> h.end(MIN), NONE);
        Sentences.refused("end(12) of 12", h -> h.end(12), 12);
    }

    private static void tellPlace() {
        Sentences.says(4, "The TAPE, which is empty then, tells a GAME in place of the one there was "
                + "(nothing can be UNDONE; SHELVES stay): how many QUESTIONS ANN has");
        ApartGames g = Told.game("game 5 5 4 4;weight 0 0 7;weight 4 4 0;odd 0 0;box 0 0 1 1 9");
        g.weigh(1, 1, 4);
        g.keep(0);
        g.decide(3, 3, 3, 3);
        Due.is("tell()", Told.tell(g, "game 3 2 2 3"), 3);
        Due.is("the tape", g.count(6), 0);
        Due.is("acts", g.count(5), 0);
        Due.is("undo()", g.undo(), NONE);
        Due.is("nothing is left of the old one", Told.letters(g), "game 3 2 2 3");
        Due.is("shelves", g.count(7), 1);
        Told.tell(g, "game 1 1 2 2;weight 0 0 7;even 0 0;box 0 0 0 0 5;box 0 0 1 1 5");
        Due.is("tell() of the same size", Told.tell(g, "game 1 1 2 2"), 1);
        Due.is("nothing is left of that one", Told.letters(g), "game 1 1 2 2");
        Due.is("tell() of a fault behind its parts",
                Told.tell(g, "game 1 1 2 2;weight 0 0 7;even 0 0;box 0 0 0 0 5;x"), -2 - (8 * 49 + 1));
        Due.is("tell() behind the fault", Told.tell(g, "game 1 1 2 2"), 1);
        Due.is("nothing is left of the faulty one", Told.letters(g), "game 1 1 2 2");
        // What the smaller game did not reach must not come back in a larger one.
        Due.is("tell() of a larger one", Told.tell(g, "game 5 5 4 4"), 5);
        Due.is("told anew", Told.letters(g), "game 5 5 4 4");
        Due.is("back(0)", g.back(0), 5);
        Due.is("kept", g.weight(1, 1) * 100 + g.weight(0, 0) * 10 + g.weight(4, 4), 470);
        Due.is("kept wins", g.count(4), 8);
        Due.is("tell() again, of an empty tape", g.tell(), -3);
    }

    private static void tellFault() {
        Sentences.says(4, "-2 - its FAULT, and but for the TAPE nothing happens");
        String[] texts = {"", "x", "game", "game 1 1 2 9", "game 5 5 4 4;weight 0 0 0;odd 0 0;box 0 0 0 0 12;win 0 0 0 4",
            "game 1 1 2 2;weight 0 0 5;"};
        int[] faults = {1, 1, 33, 90, 8 * 59 + 2, 8 * 26 + 1};
        for (int i = 0; i < texts.length; i++) {
            ApartGames g = Sentences.rich();
            ApartGames twin = Sentences.rich();
            twin.end(0);
            Due.is("tell() of '" + texts[i] + "'", Told.tell(ended(g), texts[i]), -2 - faults[i]);
            Sentences.alike("tell() of '" + texts[i] + "'", g, twin);
        }
        ApartGames g = new ApartGames();
        Due.is("a fault without a game", Told.tell(g, "game 5 5 4 4;x"), -2 - (8 * 13 + 1));
        Due.is("no game there", g.count(0), 0);
        Due.is("none of its answers", g.count(2), 0);
        Due.is("the tape", g.count(6), 0);
    }

    private static ApartGames ended(ApartGames g) {
        g.end(0);
        return g;
    }
}
