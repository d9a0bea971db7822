import java.util.ArrayList;
import java.util.List;

/**
 * The document once more, in the slowest and plainest way: all twos of rows are gone through, nothing is
 * shared with the class. It is for small games; RandomRunsTest sets the two against each other.
 */
final class Naive {
    static final int NONE = -1;

    /** A game's whole state; never changed once it is kept somewhere. */
    static final class State {
        final int nx;
        final int ny;
        final int na;
        final int nb;
        final int[][] weight;
        final boolean[][][][] win;
        final int[][][][] box;

        State(int nx, int ny, int na, int nb) {
            this.nx = nx;
            this.ny = ny;
            this.na = na;
            this.nb = nb;
            weight = new int[nx][ny];
            win = new boolean[nx][ny][na][nb];
            box = new int[nx][ny][na][nb];
        }

        State twin() {
            return pick(all(nx), all(ny));
        }

        /** The state of some questions, in some order, perhaps of one several times. */
        State pick(int[] xs, int[] ys) {
            State made = new State(xs.length, ys.length, na, nb);
            for (int x = 0; x < xs.length; x++) {
                for (int y = 0; y < ys.length; y++) {
                    made.weight[x][y] = weight[xs[x]][ys[y]];
                    for (int a = 0; a < na; a++) {
                        for (int b = 0; b < nb; b++) {
                            made.win[x][y][a][b] = win[xs[x]][ys[y]][a][b];
                            made.box[x][y][a][b] = box[xs[x]][ys[y]][a][b];
                        }
                    }
                }
            }
            return made;
        }

        State flipped() {
            State made = new State(ny, nx, nb, na);
            for (int x = 0; x < nx; x++) {
                for (int y = 0; y < ny; y++) {
                    made.weight[y][x] = weight[x][y];
                    for (int a = 0; a < na; a++) {
                        for (int b = 0; b < nb; b++) {
                            made.win[y][x][b][a] = win[x][y][a][b];
                            made.box[y][x][b][a] = box[x][y][a][b];
                        }
                    }
                }
            }
            return made;
        }

        boolean same(State other) {
            return sameGame(other) && java.util.Arrays.deepEquals(box, other.box);
        }

        boolean sameGame(State other) {
            return nx == other.nx && ny == other.ny && na == other.na && nb == other.nb
                    && java.util.Arrays.deepEquals(weight, other.weight)
                    && java.util.Arrays.deepEquals(win, other.win);
        }
    }

    private State now = new State(0, 0, 0, 0);
    private final List<State> past = new ArrayList<>();
    private final State[] shelves = new State[2];
    private String tape = "";

    static int[] all(int n) {
        int[] made = new int[n];
        for (int i = 0; i < n; i++) {
            made[i] = i;
        }
        return made;
    }

    boolean none() {
        return now.nx == 0;
    }

    boolean hasQ(int player, int q) {
        return player == 0 && q >= 0 && q < now.nx || player == 1 && q >= 0 && q < now.ny;
    }

    boolean hasA(int player, int a) {
        return player == 0 && a >= 0 && a < now.na || player == 1 && a >= 0 && a < now.nb;
    }

    boolean has(int x, int y, int a, int b) {
        return hasQ(0, x) && hasQ(1, y) && hasA(0, a) && hasA(1, b);
    }

    private State act() {
        past.add(now);
        if (past.size() > 10) {
            past.remove(0);
        }
        now = now.twin();
        return now;
    }

    // ---- tape

    int feed(int a, int b, int c, int d, int e) {
        if (tape.length() > 380) {
            return NONE;
        }
        StringBuilder more = new StringBuilder(tape);
        for (int n : new int[] {a, b, c, d, e}) {
            more.append((char) (n >> 24 & 255)).append((char) (n >> 16 & 255));
            more.append((char) (n >> 8 & 255)).append((char) (n & 255));
        }
        tape = more.toString();
        return tape.length();
    }

    int end(int n) {
        if (n < 0 || n > tape.length()) {
            return NONE;
        }
        tape = tape.substring(0, n);
        return n;
    }

    int tell() {
        NaiveText text = new NaiveText(tape);
        tape = "";
        State told = text.read();
        if (told == null) {
            return -2 - text.fault;
        }
        now = told;
        past.clear();
        return now.nx;
    }

    // ---- acts

    int weigh(int x, int y, int n) {
        if (!hasQ(0, x) || !hasQ(1, y) || n < 0 || n > 9) {
            return NONE;
        }
        int was = now.weight[x][y];
        if (was == n) {
            return -2;
        }
        act().weight[x][y] = n;
        return was;
    }

    int decide(int x, int y, int a, int b) {
        if (!has(x, y, a, b)) {
            return NONE;
        }
        State s = act();
        s.win[x][y][a][b] = !s.win[x][y][a][b];
        return s.win[x][y][a][b] ? 1 : 0;
    }

    int parity(int x, int y, int s) {
        if (!hasQ(0, x) || !hasQ(1, y) || s != 0 && s != 1) {
            return NONE;
        }
        State then = now.twin();
        for (int a = 0; a < now.na; a++) {
            for (int b = 0; b < now.nb; b++) {
                then.win[x][y][a][b] = ((a + b) & 1) == s;
            }
        }
        if (then.same(now)) {
            return -2;
        }
        act();
        now = then;
        return 1;
    }

    int exchange(int player, int q, int a, int o) {
        if (!hasQ(player, q) || !hasA(player, a) || !hasA(player, o) || a == o) {
            return NONE;
        }
        State old = now;
        State s = act();
        for (int x = 0; x < s.nx; x++) {
            for (int y = 0; y < s.ny; y++) {
                for (int i = 0; i < s.na; i++) {
                    for (int j = 0; j < s.nb; j++) {
                        int ii = player == 0 && x == q ? i == a ? o : i == o ? a : i : i;
                        int jj = player == 1 && y == q ? j == a ? o : j == o ? a : j : j;
                        s.win[x][y][i][j] = old.win[x][y][ii][jj];
                        s.box[x][y][i][j] = old.box[x][y][ii][jj];
                    }
                }
            }
        }
        return 1;
    }

    int swap() {
        if (none()) {
            return NONE;
        }
        act();
        now = now.flipped();
        return 1;
    }

    private int questions(int player) {
        return player == 0 ? now.nx : now.ny;
    }

    private void take(int player, int[] questions) {
        act();
        now = player == 0 ? now.pick(questions, all(now.ny)) : now.pick(all(now.nx), questions);
    }

    int drop(int player, int q) {
        if (!hasQ(player, q)) {
            return NONE;
        }
        int n = questions(player);
        if (n == 1) {
            return -2;
        }
        int[] left = new int[n - 1];
        for (int i = 0; i < n - 1; i++) {
            left[i] = i < q ? i : i + 1;
        }
        take(player, left);
        return n - 1;
    }

    int copy(int player, int q) {
        if (!hasQ(player, q)) {
            return NONE;
        }
        int n = questions(player);
        if (n == 5) {
            return -2;
        }
        int[] more = java.util.Arrays.copyOf(all(n), n + 1);
        more[n] = q;
        take(player, more);
        return n + 1;
    }

    int box(int x, int y, int a, int b, int n) {
        if (!has(x, y, a, b) || n < 0 || n > 12) {
            return NONE;
        }
        int was = now.box[x][y][a][b];
        if (was == n) {
            return -2;
        }
        act().box[x][y][a][b] = n;
        return was;
    }

    int mix(int ann, int ben, int n) {
        int[] r = row(0, ann);
        int[] t = row(1, ben);
        if (r == null || t == null || n < 1 || n > 12) {
            return NONE;
        }
        for (int x = 0; x < now.nx; x++) {
            for (int y = 0; y < now.ny; y++) {
                if (now.box[x][y][r[x]][t[y]] > 12 - n) {
                    return -2;
                }
            }
        }
        State s = act();
        for (int x = 0; x < now.nx; x++) {
            for (int y = 0; y < now.ny; y++) {
                s.box[x][y][r[x]][t[y]] += n;
            }
        }
        return 1;
    }

    int draw(int seed) {
        if (none()) {
            return NONE;
        }
        State s = act();
        int state = seed;
        int winning = 0;
        for (int x = 0; x < s.nx; x++) {
            for (int y = 0; y < s.ny; y++) {
                state = state * 1103515245 + 12345;
                s.weight[x][y] = (state >>> 16 & 3) + 1;
                for (int a = 0; a < s.na; a++) {
                    for (int b = 0; b < s.nb; b++) {
                        state = state * 1103515245 + 12345;
                        s.win[x][y][a][b] = (state >>> 16 & 1) == 1;
                        winning += state >>> 16 & 1;
                    }
                }
            }
        }
        return winning;
    }

    int undo() {
        if (past.isEmpty()) {
            return NONE;
        }
        now = past.remove(past.size() - 1);
        return past.size();
    }

    int keep(int shelf) {
        if (shelf != 0 && shelf != 1) {
            return NONE;
        }
        shelves[shelf] = now.twin();
        return now.nx;
    }

    int back(int shelf) {
        if (shelf != 0 && shelf != 1) {
            return NONE;
        }
        if (shelves[shelf] == null) {
            return -2;
        }
        now = shelves[shelf].twin();
        past.clear();
        return now.nx;
    }

    // ---- rows

    int[] row(int player, int number) {
        if (none() || number < 0) {
            return null;
        }
        List<int[]> rows = rows(player);
        for (int[] r : rows) {
            if (number(r) == number) {
                return r;
            }
        }
        return null;
    }

    static int number(int[] row) {
        StringBuilder digits = new StringBuilder();
        for (int answer : row) {
            digits.append(answer);
        }
        return Integer.parseInt(digits.toString());
    }

    List<int[]> rows(int player) {
        return rows(questions(player), player == 0 ? now.na : now.nb);
    }

    static List<int[]> rows(int questions, int answers) {
        List<int[]> made = new ArrayList<>();
        made.add(new int[questions]);
        for (int q = 0; q < questions; q++) {
            List<int[]> longer = new ArrayList<>();
            for (int[] r : made) {
                for (int a = 0; a < answers; a++) {
                    int[] twin = r.clone();
                    twin[q] = a;
                    longer.add(twin);
                }
            }
            made = longer;
        }
        return made;
    }

    static int worthOf(State s, int[] ann, int[] ben) {
        int total = 0;
        for (int x = 0; x < s.nx; x++) {
            for (int y = 0; y < s.ny; y++) {
                if (s.win[x][y][ann[x]][ben[y]]) {
                    total += s.weight[x][y];
                }
            }
        }
        return total;
    }

    int most(State s) {
        int most = 0;
        for (int[] r : rows(s.nx, s.na)) {
            for (int[] t : rows(s.ny, s.nb)) {
                most = Math.max(most, worthOf(s, r, t));
            }
        }
        return most;
    }

    int total() {
        int total = 0;
        for (int[] line : now.weight) {
            for (int w : line) {
                total += w;
            }
        }
        return total;
    }

    int wins(int x, int y, int a, int b) {
        return has(x, y, a, b) ? now.win[x][y][a][b] ? 1 : 0 : NONE;
    }

    int weight(int x, int y) {
        return hasQ(0, x) && hasQ(1, y) ? now.weight[x][y] : NONE;
    }

    private int surest(int player, boolean wantsRow) {
        int most = -1;
        int[] by = null;
        for (int[] mine : rows(player)) {
            int least = Integer.MAX_VALUE;
            for (int[] his : rows(1 - player)) {
                least = Math.min(least, player == 0 ? worthOf(now, mine, his) : worthOf(now, his, mine));
            }
            if (least > most) {
                most = least;
                by = mine;
            }
        }
        return wantsRow ? number(by) : most;
    }

    int worth(int what) {
        if (none() || what < 0 || what > 4) {
            return NONE;
        }
        if (what == 0) {
            return most(now);
        }
        if (what == 1) {
            return total();
        }
        if (what >= 3) {
            return surest(what - 3, false);
        }
        int least = Integer.MAX_VALUE;
        for (int[] r : rows(0)) {
            for (int[] t : rows(1)) {
                least = Math.min(least, worthOf(now, r, t));
            }
        }
        return least;
    }

    int sure(int player) {
        return none() || player != 0 && player != 1 ? NONE : surest(player, true);
    }

    int play(int ann, int ben) {
        int[] r = row(0, ann);
        int[] t = row(1, ben);
        return r == null || t == null ? NONE : worthOf(now, r, t);
    }

    int hangs(int ann, int y) {
        int[] r = row(0, ann);
        if (r == null || !hasQ(1, y)) {
            return NONE;
        }
        int most = 0;
        int least = Integer.MAX_VALUE;
        for (int b = 0; b < now.nb; b++) {
            int had = 0;
            for (int x = 0; x < now.nx; x++) {
                had += now.win[x][y][r[x]][b] ? now.weight[x][y] : 0;
            }
            most = Math.max(most, had);
            least = Math.min(least, had);
        }
        return most - least;
    }

    int reply(int player, int other) {
        if (player != 0 && player != 1) {
            return NONE;
        }
        int[] his = row(1 - player, other);
        if (his == null) {
            return NONE;
        }
        int most = -1;
        int[] by = null;
        for (int[] mine : rows(player)) {
            int had = player == 0 ? worthOf(now, mine, his) : worthOf(now, his, mine);
            if (had > most) {
                most = had;
                by = mine;
            }
        }
        return number(by);
    }

    private List<int[][]> tops() {
        List<int[][]> tops = new ArrayList<>();
        int most = most(now);
        for (int[] r : rows(0)) {
            for (int[] t : rows(1)) {
                if (worthOf(now, r, t) == most) {
                    tops.add(new int[][] {r, t});
                }
            }
        }
        return tops;
    }

    long bests() {
        return none() ? NONE : tops().size();
    }

    int best(int k, int player) {
        if (none() || k < 0 || player != 0 && player != 1) {
            return NONE;
        }
        List<int[][]> tops = tops();
        return k < tops.size() ? number(tops.get(k)[player]) : -2;
    }

    long lost(int x, int y) {
        if (!hasQ(0, x) || !hasQ(1, y)) {
            return NONE;
        }
        long lost = 0;
        for (int[][] two : tops()) {
            if (!now.win[x][y][two[0][x]][two[1][y]]) {
                lost++;
            }
        }
        return lost;
    }

    long mean(int what) {
        if (none() || what != 0 && what != 1) {
            return NONE;
        }
        long above = 0;
        long below = 0;
        for (int[] r : rows(0)) {
            for (int[] t : rows(1)) {
                above += worthOf(now, r, t);
                below++;
            }
        }
        for (long d = below; d > 1; d--) {
            if (above % d == 0 && below % d == 0) {
                above /= d;
                below /= d;
            }
        }
        return what == 0 ? above : below;
    }

    int talk(int what) {
        if (none() || what != 0 && what != 1) {
            return NONE;
        }
        int most = -1;
        int mask = 0;
        for (int m = 0; m < 1 << now.nx; m += 2) {
            int had = 0;
            for (int[] r : rows(0)) {
                had = Math.max(had, heard(r, m, 0) + heard(r, m, 1));
            }
            if (had > most) {
                most = had;
                mask = m;
            }
        }
        return what == 0 ? most : mask;
    }

    private int heard(int[] ann, int mask, int bit) {
        int most = 0;
        for (int[] t : rows(1)) {
            int had = 0;
            for (int x = 0; x < now.nx; x++) {
                for (int y = 0; y < now.ny; y++) {
                    if ((mask >> x & 1) == bit && now.win[x][y][ann[x]][t[y]]) {
                        had += now.weight[x][y];
                    }
                }
            }
            most = Math.max(most, had);
        }
        return most;
    }

    int without(int player, int q) {
        if (!hasQ(player, q)) {
            return NONE;
        }
        State s = now.twin();
        for (int x = 0; x < s.nx; x++) {
            for (int y = 0; y < s.ny; y++) {
                if (player == 0 && x == q || player == 1 && y == q) {
                    s.weight[x][y] = 0;
                }
            }
        }
        return most(s);
    }

    int lesser(int player, int q, int one, int other) {
        if (!hasQ(player, q) || !hasA(player, one) || !hasA(player, other) || one == other) {
            return NONE;
        }
        State s = player == 0 ? now : now.flipped();
        for (int y = 0; y < s.ny; y++) {
            for (int b = 0; b < s.nb; b++) {
                if (s.weight[q][y] > 0 && s.win[q][y][one][b] && !s.win[q][y][other][b]) {
                    return 0;
                }
            }
        }
        return 1;
    }

    int same(int player, int q, int other) {
        if (!hasQ(player, q) || !hasQ(player, other) || q == other) {
            return NONE;
        }
        State s = player == 0 ? now : now.flipped();
        return s.pick(new int[] {q}, all(s.ny)).same(s.pick(new int[] {other}, all(s.ny))) ? 1 : 0;
    }

    int climb(int ann, int ben, int what) {
        if (row(0, ann) == null || row(1, ben) == null || what < 0 || what > 3) {
            return NONE;
        }
        int r = ann;
        int t = ben;
        int taken = 0;
        boolean annLate = false;
        while (true) {
            int reply = annLate ? reply(0, t) : reply(1, r);
            int had = annLate ? play(reply, t) : play(r, reply);
            boolean takes = had > play(r, t);
            if (takes) {
                taken++;
                r = annLate ? reply : r;
                t = annLate ? t : reply;
            } else if (play(reply(0, t), t) <= play(r, t) && play(r, reply(1, r)) <= play(r, t)) {
                break;
            }
            annLate = !annLate;
        }
        return what == 0 ? play(r, t) : what == 1 ? r : what == 2 ? t : taken;
    }

    int cut(int x, int y) {
        if (!hasQ(0, x) || !hasQ(1, y)) {
            return NONE;
        }
        State s = now.twin();
        s.weight[x][y] = 0;
        return most(s);
    }

    int parts(int what) {
        if (none() || what < 0 || what > 2) {
            return NONE;
        }
        if (what == 2) {
            return most(now) == total() ? 1 : 0;
        }
        boolean[] seen = new boolean[now.nx + now.ny];
        int parts = 0;
        int greatest = 0;
        for (int i = 0; i < seen.length; i++) {
            if (!seen[i]) {
                parts++;
                greatest = Math.max(greatest, walk(i, seen));
            }
        }
        return what == 0 ? parts : greatest;
    }

    private int walk(int from, boolean[] seen) {
        if (seen[from]) {
            return 0;
        }
        seen[from] = true;
        int size = 1;
        for (int to = 0; to < seen.length; to++) {
            int x = Math.min(from, to);
            int y = Math.max(from, to) - now.nx;
            if (x < now.nx && y >= 0 && now.weight[x][y] > 0) {
                size += walk(to, seen);
            }
        }
        return size;
    }

    // ---- parity, twice

    static int sign(State s, int x, int y) {
        boolean even = true;
        boolean odd = true;
        for (int a = 0; a < s.na; a++) {
            for (int b = 0; b < s.nb; b++) {
                even &= s.win[x][y][a][b] == ((a + b) % 2 == 0);
                odd &= s.win[x][y][a][b] == ((a + b) % 2 == 1);
            }
        }
        return even ? 1 : odd ? -1 : 0;
    }

    int sign(int x, int y) {
        return hasQ(0, x) && hasQ(1, y) ? sign(now, x, y) : -2;
    }

    private boolean isParityGame() {
        boolean is = now.na == 2 && now.nb == 2;
        for (int x = 0; x < now.nx; x++) {
            for (int y = 0; y < now.ny; y++) {
                is &= now.weight[x][y] == 0 || sign(x, y) != 0;
            }
        }
        return is;
    }

    int bias(int what) {
        if (none() || what < 0 || what > 2) {
            return NONE;
        }
        if (!isParityGame()) {
            return -2000;
        }
        int squares = 0;
        int crossed = 0;
        for (int x = 0; x < now.nx; x++) {
            for (int z = 0; z < x; z++) {
                for (int y = 0; y < now.ny; y++) {
                    for (int v = 0; v < y; v++) {
                        int w = now.weight[x][y] * now.weight[x][v] * now.weight[z][y] * now.weight[z][v];
                        squares += w > 0 ? 1 : 0;
                        crossed += w > 0 && sign(x, y) * sign(x, v) * sign(z, y) * sign(z, v) < 0 ? 1 : 0;
                    }
                }
            }
        }
        int won = most(now);
        return what == 0 ? won - (total() - won) : what == 1 ? squares : crossed;
    }

    int twice(int what) {
        if (none() || what != 0 && what != 1) {
            return NONE;
        }
        if (Math.pow(now.na * now.na, now.nx * now.nx) > 70000) {
            return -2;
        }
        int most = 0;
        for (int[] r : rows(now.nx * now.nx, now.na * now.na)) {
            int had = 0;
            for (int y = 0; y < now.ny; y++) {
                for (int v = 0; v < now.ny; v++) {
                    int top = 0;
                    for (int b = 0; b < now.nb; b++) {
                        for (int d = 0; d < now.nb; d++) {
                            top = Math.max(top, wonTwice(r, y, v, b, d, what));
                        }
                    }
                    had += top;
                }
            }
            most = Math.max(most, had);
        }
        return most;
    }

    private int wonTwice(int[] r, int y, int v, int b, int d, int what) {
        int had = 0;
        for (int x = 0; x < now.nx; x++) {
            for (int z = 0; z < now.nx; z++) {
                int given = r[x * now.nx + z];
                boolean one = now.win[x][y][given / now.na][b];
                boolean two = now.win[z][v][given % now.na][d];
                if (what == 0 ? one && two : one || two) {
                    had += now.weight[x][y] * now.weight[z][v];
                }
            }
        }
        return had;
    }

    int product() {
        if (none()) {
            return NONE;
        }
        if (!isParityGame()) {
            return -2000;
        }
        if (now.nx == 5) {
            return -2001;
        }
        int most = 0;
        for (int[] r : rows(now.nx * now.nx, 2)) {
            int had = 0;
            for (int y = 0; y < now.ny; y++) {
                for (int v = 0; v < now.ny; v++) {
                    int alike = 0;
                    for (int x = 0; x < now.nx; x++) {
                        for (int z = 0; z < now.nx; z++) {
                            int c = now.weight[x][y] * now.weight[z][v] * sign(x, y) * sign(z, v);
                            alike += r[x * now.nx + z] == 0 ? c : -c;
                        }
                    }
                    had += Math.max(alike, -alike);
                }
            }
            most = Math.max(most, had);
        }
        return most;
    }

    // ---- box

    int boxed(int what) {
        if (none() || what < 0 || what > 3) {
            return NONE;
        }
        int worth = 0;
        boolean whole = true;
        for (int x = 0; x < now.nx; x++) {
            for (int y = 0; y < now.ny; y++) {
                int all = 0;
                for (int a = 0; a < now.na; a++) {
                    for (int b = 0; b < now.nb; b++) {
                        all += now.box[x][y][a][b];
                        worth += now.win[x][y][a][b] ? now.weight[x][y] * now.box[x][y][a][b] : 0;
                    }
                }
                whole &= all == 12;
            }
        }
        switch (what) {
            case 0:
                return worth;
            case 1:
                return whole ? 1 : 0;
            case 2:
                return signals(0) || signals(1) ? 1 : 0;
            default:
                return worth > 12 * most(now) ? 1 : 0;
        }
    }

    private boolean signals(int player) {
        boolean signals = false;
        for (int q = 0; q < questions(player); q++) {
            for (int a = 0; hasA(player, a); a++) {
                for (int o = 0; o < questions(1 - player); o++) {
                    signals |= marginal(player, q, a, o) != marginal(player, q, a, 0);
                }
            }
        }
        return signals;
    }

    int marginal(int player, int q, int a, int o) {
        if (!hasQ(player, q) || !hasA(player, a) || !hasQ(1 - player, o)) {
            return NONE;
        }
        State s = player == 0 ? now : now.flipped();
        int often = 0;
        for (int n : s.box[q][o][a]) {
            often += n;
        }
        return often;
    }

    int symmetries() {
        if (none()) {
            return NONE;
        }
        int found = 0;
        for (int[] p : rows(now.nx, now.nx)) {
            for (int[] q : rows(now.ny, now.ny)) {
                if (isOrder(p) && isOrder(q) && now.pick(p, q).sameGame(now)) {
                    found++;
                }
            }
        }
        return found;
    }

    private static boolean isOrder(int[] places) {
        long seen = 0;
        for (int place : places) {
            seen |= 1L << place;
        }
        return Long.bitCount(seen) == places.length;
    }

    String text() {
        if (none()) {
            return "";
        }
        List<String> weights = new ArrayList<>();
        List<String> wins = new ArrayList<>();
        List<String> boxes = new ArrayList<>();
        for (int x = 0; x < now.nx; x++) {
            for (int y = 0; y < now.ny; y++) {
                if (now.weight[x][y] != 1) {
                    weights.add(String.format("weight %d %d %d", x, y, now.weight[x][y]));
                }
                for (int a = 0; a < now.na; a++) {
                    for (int b = 0; b < now.nb; b++) {
                        if (now.win[x][y][a][b]) {
                            wins.add(String.format("win %d %d %d %d", x, y, a, b));
                        }
                        if (now.box[x][y][a][b] != 0) {
                            boxes.add(String.format("box %d %d %d %d %d", x, y, a, b, now.box[x][y][a][b]));
                        }
                    }
                }
            }
        }
        List<String> all = new ArrayList<>();
        all.add(String.format("game %d %d %d %d", now.nx, now.ny, now.na, now.nb));
        all.addAll(weights);
        all.addAll(wins);
        all.addAll(boxes);
        return String.join(";", all);
    }

    int letter(int k) {
        String text = text();
        return k < NONE ? NONE : k == NONE ? text.length() : k < text.length() ? text.charAt(k) : -2;
    }

    int count(int what) {
        int winning = 0;
        for (boolean[][][] line : now.win) {
            for (boolean[][] cell : line) {
                for (boolean[] answers : cell) {
                    for (boolean wins : answers) {
                        winning += wins ? 1 : 0;
                    }
                }
            }
        }
        int kept = (shelves[0] == null ? 0 : 1) + (shelves[1] == null ? 0 : 2);
        int[] counts = {now.nx, now.ny, now.na, now.nb, winning, past.size(), tape.length(), kept};
        return what >= 0 && what < counts.length ? counts[what] : NONE;
    }
}
