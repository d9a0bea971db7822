import java.nio.file.Files;
import java.nio.file.Path;
import java.util.HashSet;
import java.util.Set;
import java.util.regex.Matcher;
import java.util.regex.Pattern;

/** What of ../shared/LANGUAGE.md can be seen in the source's signs; the path of the source is the argument. */
public final class LanguageTest {
    private static final String[] RULED_OUT = {"throw", "throws", "try", "catch", "finally", "synchronized", "assert",
        "import", "package", "protected", "default void", "Exact", "->", "::", "volatile", "transient", "native",
        "System.out", "System.exit", "System.nanoTime", "System.currentTimeMillis", "Random", "Thread", "HashMap",
        "hashCode", "toString", "instanceof", "var ", "@"};

    private LanguageTest() {
    }

    public static void main(String[] args) throws java.io.IOException {
        String source = Files.readString(Path.of(args[0]));
        for (int i = 0; i < source.length(); i++) {
            Due.holds("sign " + (int) source.charAt(i) + " is 1 to 127", source.charAt(i) <= 127);
        }
        String code = bare(source);
        for (String word : RULED_OUT) {
            boolean isWord = word.matches("[a-zA-Z]+") && !word.equals("Exact");
            String sought = isWord ? "\\b" + word + "\\b" : Pattern.quote(word);
            Due.holds("'" + word + "' is nowhere", !Pattern.compile(sought).matcher(code).find());
        }
        names(code);
        statics(code);
        methods(code);
        Due.end("LanguageTest");
    }

    /** The code without comments, and with texts emptied. */
    private static String bare(String source) {
        String code = source.replaceAll("(?s)/\\*.*?\\*/", "").replaceAll("//[^\n]*", "");
        return code.replaceAll("\"(\\\\.|[^\"\\\\])*\"", "\"\"").replaceAll("'(\\\\.|[^'\\\\])'", "' '");
    }

    private static final Pattern METHOD = Pattern.compile(
            "(?m)^ +(public|private)( static)? (?!final|class)[a-zA-Z\\[\\]]+ ([a-z][a-zA-Z]*)\\(([^)]*)\\) \\{$");

    // Rules 1 and 11: no private method is called as a public one; seven parameters at the most.
    private static void names(String code) {
        Set<String> open = new HashSet<>();
        Matcher m = METHOD.matcher(code);
        while (m.find()) {
            if (m.group(1).equals("public")) {
                open.add(m.group(3));
            }
        }
        Due.is("public methods", open.size(), 43);
        m = METHOD.matcher(code);
        while (m.find()) {
            Due.holds(m.group(3) + " is no public name", m.group(1).equals("public") || !open.contains(m.group(3)));
            Due.holds(m.group(3) + " has 7 parameters at the most", m.group(4).split(",").length <= 7);
        }
        Matcher plain = Pattern.compile("(?m)^    (?!private |public |\\}|    )\\S.*$").matcher(code);
        Due.holds("all members of the class are public or private", !plain.find());
    }

    // Rules 2, 5, 11: classes inside are static, static fields final, classes twelve at the most.
    private static void statics(String code) {
        Matcher m = Pattern.compile("(?m)^.*\\b(class|interface|enum|record) [A-Z].*$").matcher(code);
        int classes = 0;
        while (m.find()) {
            classes++;
            Due.holds(m.group().trim() + " is static", m.group().contains("static") || classes == 1);
        }
        Due.holds("twelve classes at the most", classes <= 12);
        m = Pattern.compile("(?m)^.*\\bstatic\\b[^(]*[=;].*$").matcher(code);
        while (m.find()) {
            Due.holds(m.group().trim() + " is final", m.group().contains("static final"));
        }
    }

    // Rule 11: some sixty lines.
    private static void methods(String code) {
        String[] lines = code.split("\n");
        int begun = 0;
        for (int i = 0; i < lines.length; i++) {
            if (METHOD.matcher(lines[i]).find()) {
                begun = i;
            }
            if (lines[i].matches(" {4,8}\\}")) {
                Due.holds("lines from " + (begun + 1) + " on are sixty at the most", i - begun <= 60 || begun == 0
                        || !METHOD.matcher(lines[begun]).find() || endsAhead(lines, begun, i));
            }
        }
    }

    private static boolean endsAhead(String[] lines, int begun, int last) {
        String indent = lines[begun].replaceAll("\\S.*", "");
        for (int i = begun; i < last; i++) {
            if (lines[i].equals(indent + "}")) {
                return true;
            }
        }
        return false;
    }
}
