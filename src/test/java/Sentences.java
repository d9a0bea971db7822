import java.io.IOException;
import java.nio.file.Files;
import java.nio.file.Path;
import java.util.ArrayList;
import java.util.LinkedHashMap;
import java.util.List;
import java.util.Map;
import java.util.function.Supplier;
import java.util.function.ToLongFunction;
import java.util.regex.Matcher;
import java.util.regex.Pattern;

/**
 * Tests by the document's sentences: a test quotes the one that it is for. A quote must stand in the document,
 * and every clause of the parts that a test opens must be quoted, so that none is forgotten.
 */
final class Sentences {
    static final String CHSH = "game 2 2 2 2;even 0 0;even 0 1;even 1 0;odd 1 1";
    static final int MIN = Integer.MIN_VALUE;
    static final int MAX = Integer.MAX_VALUE;
    private static final int NONE = ApartGames.NONE;

    private static final Map<String, String> TEXTS = new LinkedHashMap<>();
    private static final Map<String, List<String>> QUOTES = new LinkedHashMap<>();
    private static int answersAhead = 0;
    private static String sentence = "";

    private Sentences() {
    }

    // ---- the document

    /** The arguments are the source and the document; the parts are "I", "II" and the numbers of promises. */
    static void open(String[] args, String... parts) throws IOException {
        if (args.length < 2 || !Files.exists(Path.of(args[1]))) {
            System.out.println("no document here: the quotes are not looked at");
            return;
        }
        String document = Files.readString(Path.of(args[1]));
        for (String part : parts) {
            String found = find(document, part);
            Due.holds("the document has part " + part, !found.isEmpty());
            TEXTS.put(part, found);
            QUOTES.put(part, new ArrayList<>());
        }
    }

    private static String find(String document, String part) {
        String promise = "(?ms)^## Promise " + part + ": [^\n]*\n\\s*`[^`]*`: (.*?)(?=^## )";
        String terms = "(?ms)^==== " + part + "\\.(.*?)(?=^====|^## )";
        Matcher m = Pattern.compile(part.startsWith("I") ? terms : promise).matcher(document);
        return m.find() ? plain(m.group(1).replace("```text", "").replace("```", "")) : "";
    }

    private static String plain(String text) {
        return text.replaceAll("\\s+", " ").trim();
    }

    /** Cut behind stops and semicolons, but not within brackets. */
    private static List<String> clauses(String text) {
        List<String> made = new ArrayList<>();
        StringBuilder clause = new StringBuilder();
        int depth = 0;
        for (int i = 0; i < text.length(); i++) {
            char c = text.charAt(i);
            depth += c == '(' || c == '{' ? 1 : c == ')' || c == '}' ? -1 : 0;
            boolean ends = c == ';' || c == '.' && (i + 1 == text.length() || text.charAt(i + 1) == ' ')
                    && (i == 0 || text.charAt(i - 1) != '.');
            if (ends && depth == 0) {
                made.add(plain(clause.toString()));
                clause.setLength(0);
            } else {
                clause.append(c);
            }
        }
        made.add(plain(clause.toString()));
        made.removeIf(String::isEmpty);
        return made;
    }

    // ---- what a test is for

    static void says(String part, String quote) {
        closeSentence();
        Due.holds("part " + part + " says: " + quote, TEXTS.isEmpty() || TEXTS.getOrDefault(part, "").contains(quote));
        QUOTES.computeIfAbsent(part, none -> new ArrayList<>()).add(quote);
        sentence = part + ": " + quote;
        Due.about(sentence);
        answersAhead = Due.asked();
    }

    static void says(int promise, String quote) {
        says(Integer.toString(promise), quote);
    }

    private static void closeSentence() {
        if (!sentence.isEmpty()) {
            Due.holds("this sentence is tested", Due.asked() > answersAhead);
        }
        Due.about("");
    }

    static void end(String test) {
        closeSentence();
        for (Map.Entry<String, String> part : TEXTS.entrySet()) {
            for (String clause : clauses(part.getValue())) {
                Due.holds("a test for part " + part.getKey() + ": " + clause, isQuoted(part.getKey(), clause));
            }
        }
        Due.end(test);
    }

    private static boolean isQuoted(String part, String clause) {
        for (String quote : QUOTES.get(part)) {
            if (clause.contains(quote) || quote.contains(clause)) {
                return true;
            }
        }
        return false;
    }

    // ---- nothing happens

    /** A game with something of everything: weights, wins, box, two acts, a shelf, a tape. */
    static ApartGames rich() {
        ApartGames g = Told.game("game 2 2 2 3;weight 0 1 3;win 0 0 1 2;box 1 1 0 0 4");
        g.weigh(1, 0, 5);
        g.keep(1);
        g.decide(1, 1, 0, 1);
        Told.lay(g, "game 1 1 2 2");
        return g;
    }

    /** Without a game, but with a tape. */
    static ApartGames bare() {
        ApartGames g = new ApartGames();
        Told.lay(g, "game 1 1 2 2");
        return g;
    }

    static void refused(String call, ToLongFunction<ApartGames> asked, long due) {
        refusedOf(Sentences::rich, call, asked, due);
    }

    static void refusedBare(String call, ToLongFunction<ApartGames> asked) {
        refusedOf(Sentences::bare, call + " without a game", asked, NONE);
    }

    /** The call answers what is due, and then the object answers all as its twin does that was not called. */
    static void refusedOf(Supplier<ApartGames> made, String call, ToLongFunction<ApartGames> asked, long due) {
        ApartGames games = made.get();
        ApartGames twin = made.get();
        Due.is(call, asked.applyAsLong(games), due);
        alike(call, games, twin);
    }

    /** Whether two objects are alike in all that can be seen: game, acts, tape, shelves. Both are used up. */
    static void alike(String call, ApartGames one, ApartGames other) {
        for (int what = 0; what < 8; what++) {
            Due.is("count(" + what + ") behind " + call, one.count(what), other.count(what));
        }
        Due.is("text behind " + call, Told.letters(one), Told.letters(other));
        for (int left = other.count(5); left >= 0; left--) {
            Due.is("undo() behind " + call, one.undo(), other.undo());
            if (left == 1) {
                Due.is("text undone behind " + call, Told.letters(one), Told.letters(other));
            }
        }
        for (int shelf = 0; shelf < 2; shelf++) {
            Due.is("back(" + shelf + ") behind " + call, one.back(shelf), other.back(shelf));
            Due.is("text kept behind " + call, Told.letters(one), Told.letters(other));
        }
        Due.is("tell() behind " + call, one.tell(), other.tell());
        Due.is("text told behind " + call, Told.letters(one), Told.letters(other));
    }

    /** Numbers that are not 0 to n - 1: the next ones, and the last ones that an int has. */
    static int[] not(int n) {
        return new int[] {-1, n, n + 1, -n, MIN, MAX};
    }
}
