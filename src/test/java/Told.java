/** Feeds texts to an object. */
final class Told {
    private Told() {
    }

    /** Feeds the text behind an empty tape and answers what tell() answers. */
    static int tell(ApartGames games, String text) {
        lay(games, text);
        return games.tell();
    }

    static void lay(ApartGames games, String text) {
        for (int at = 0; at < text.length(); at += 20) {
            games.feed(four(text, at), four(text, at + 4), four(text, at + 8), four(text, at + 12),
                    four(text, at + 16));
        }
        games.end(text.length());
    }

    static int four(String text, int at) {
        int number = 0;
        for (int i = at; i < at + 4; i++) {
            number = number << 8 | (i < text.length() ? text.charAt(i) & 255 : 0);
        }
        return number;
    }

    static ApartGames game(String text) {
        ApartGames games = new ApartGames();
        int answered = tell(games, text);
        if (answered < 0) {
            Due.is("tell() of " + text, answered, 1);
        }
        return games;
    }

    /** The whole text that letter() tells. */
    static String letters(ApartGames games) {
        int length = games.letter(ApartGames.NONE);
        StringBuilder text = new StringBuilder();
        for (int k = 0; k < length; k++) {
            text.append((char) games.letter(k));
        }
        return text.toString();
    }
}
