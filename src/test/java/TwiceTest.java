import java.util.Random;

/** Games twice at once, and with themselves, in which few answers win, against Naive. */
public final class TwiceTest {
    private static final Random RANDOM = new Random(4711);

    private TwiceTest() {
    }

    public static void main(String[] args) {
        for (int i = 0; i < 150; i++) {
            twice(1 + RANDOM.nextInt(2), 1 + RANDOM.nextInt(3), 2 + RANDOM.nextInt(2), 2 + RANDOM.nextInt(3));
        }
        for (int i = 0; i < 8; i++) {
            twice(2, 2, 4, 2 + i % 3);
        }
        twice(2, 5, 2, 4);
        for (int i = 0; i < 150; i++) {
            product(1 + RANDOM.nextInt(3), 1 + RANDOM.nextInt(5));
        }
        product(4, 5);
        product(4, 4);
        Due.end("TwiceTest");
    }

    private static void twice(int nx, int ny, int na, int nb) {
        StringBuilder text = new StringBuilder();
        text.append("game ").append(nx).append(' ').append(ny).append(' ').append(na).append(' ').append(nb);
        for (int x = 0; x < nx; x++) {
            for (int y = 0; y < ny; y++) {
                if (RANDOM.nextInt(3) == 0) {
                    text.append(";weight ").append(x).append(' ').append(y).append(' ').append(RANDOM.nextInt(10));
                }
                for (int i = RANDOM.nextInt(3); i >= 0; i--) {
                    text.append(";win ").append(x).append(' ').append(y).append(' ');
                    text.append(RANDOM.nextInt(na)).append(' ').append(RANDOM.nextInt(nb));
                }
            }
        }
        if (text.length() > 400) {
            text.setLength(text.lastIndexOf(";", 400));
        }
        compare(text.toString());
    }

    private static void product(int nx, int ny) {
        StringBuilder text = new StringBuilder();
        text.append("game ").append(nx).append(' ').append(ny).append(" 2 2");
        for (int x = 0; x < nx; x++) {
            for (int y = 0; y < ny; y++) {
                text.append(RANDOM.nextBoolean() ? ";odd" : ";even").append(x).append(' ').append(y);
            }
        }
        for (int i = RANDOM.nextInt(10); i > 0; i--) {
            text.append(";weight").append(RANDOM.nextInt(nx)).append(' ').append(RANDOM.nextInt(ny));
            text.append(' ').append(RANDOM.nextInt(10));
        }
        compare(text.toString());
    }

    private static void compare(String text) {
        ApartGames games = Told.game(text);
        Naive naive = new Naive();
        for (int at = 0; at < text.length(); at += 20) {
            naive.feed(Told.four(text, at), Told.four(text, at + 4), Told.four(text, at + 8), Told.four(text, at + 12),
                    Told.four(text, at + 16));
        }
        naive.end(text.length());
        naive.tell();
        Due.is("twice(0) of " + text, games.twice(0), naive.twice(0));
        Due.is("twice(1) of " + text, games.twice(1), naive.twice(1));
        Due.is("product() of " + text, games.product(), naive.product());
    }
}
