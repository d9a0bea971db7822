import java.math.BigInteger;
import java.util.ArrayList;
import java.util.List;

/** Reads a text by cutting it into pieces first; for Naive. */
final class NaiveText {
    /** A word, a number, a ';', some other byte, or (empty) the end. */
    private static final class Piece {
        final int place;
        final String letters;

        Piece(int place, String letters) {
            this.place = place;
            this.letters = letters;
        }

        boolean isNumber() {
            return letters.matches("[0-9]+");
        }
    }

    int fault = 0;
    private final List<Piece> pieces = new ArrayList<>();
    private int next = 0;

    NaiveText(String text) {
        java.util.regex.Matcher m = java.util.regex.Pattern.compile("(?s)[a-z]+|[0-9]+|[^ ]").matcher(text);
        while (m.find()) {
            pieces.add(new Piece(m.start(), m.group()));
        }
        pieces.add(new Piece(text.length(), ""));
    }

    private static final class Fault extends RuntimeException {
        private static final long serialVersionUID = 1L;
    }

    private Fault fault(int place, int kind) {
        fault = 8 * place + kind;
        return new Fault();
    }

    private Piece piece() {
        return pieces.get(next);
    }

    private String word(String words) {
        String word = piece().letters;
        if (!(" " + words + " ").contains(" " + word + " ") || word.isEmpty()) {
            throw fault(piece().place, 1);
        }
        next++;
        return word;
    }

    private int number(int least, int most) {
        Piece piece = piece();
        if (!piece.isNumber()) {
            throw fault(piece.place, 1);
        }
        BigInteger n = new BigInteger(piece.letters);
        if (n.compareTo(BigInteger.valueOf(least)) < 0 || n.compareTo(BigInteger.valueOf(most)) > 0) {
            throw fault(piece.place, 2);
        }
        next++;
        return n.intValue();
    }

    /** The game, or null and a fault. */
    Naive.State read() {
        try {
            return game();
        } catch (Fault wrong) {
            return null;
        }
    }

    private Naive.State game() {
        word("game");
        int nx = number(1, 5);
        int ny = number(1, 5);
        int na = number(2, 4);
        int nb = number(2, 4);
        Naive.State s = new Naive.State(nx, ny, na, nb);
        for (int[] line : s.weight) {
            java.util.Arrays.fill(line, 1);
        }
        while (!piece().letters.isEmpty()) {
            word(";");
            part(s);
        }
        return s;
    }

    private void part(Naive.State s) {
        String word = word("weight win even odd alike unlike box");
        int x = number(0, s.nx - 1);
        int y = number(0, s.ny - 1);
        if (word.equals("weight")) {
            s.weight[x][y] = number(0, 9);
        } else if (word.equals("win")) {
            int a = number(0, s.na - 1);
            s.win[x][y][a][number(0, s.nb - 1)] = true;
        } else if (word.equals("box")) {
            int a = number(0, s.na - 1);
            int b = number(0, s.nb - 1);
            s.box[x][y][a][b] = number(0, 12);
        } else {
            for (int a = 0; a < s.na; a++) {
                for (int b = 0; b < s.nb; b++) {
                    boolean even = (a + b) % 2 == 0;
                    s.win[x][y][a][b] |= word.equals("even") && even || word.equals("odd") && !even
                            || word.equals("alike") && a == b || word.equals("unlike") && a != b;
                }
            }
        }
    }
}
