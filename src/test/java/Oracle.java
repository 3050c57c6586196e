import java.util.ArrayList;
import java.util.Arrays;
import java.util.HashMap;
import java.util.LinkedHashMap;
import java.util.List;
import java.util.Map;

/**
 * The document once more, word by word and without regard to speed, to compare answers with. It
 * holds SIGNS where the program holds CORNERS, sorts all tables where the program counts them, and
 * joins EDGES where the program walks, so that one slip does not come twice.
 */
final class Oracle {
    private static final int BAD = -1, NO = -2, FULL = -3, NONE = -4;
    private static final Map<Integer, List<int[][]>> ALL = new HashMap<>();
    private static final Map<String, Integer> RANKS = new HashMap<>();
    private static final Map<Integer, Map<List<Integer>, Integer>> WAYS = new HashMap<>();

    private int[][] table = {{0, 1, 0}, {1, -1, 1}, {0, 1, 0}};
    private int[][] other;
    private final List<int[][]> past = new ArrayList<>();
    private String text = "";

    // ---- told

    int write(int letter) {
        if (letter < 32 || letter > 126) return BAD;
        if (text.length() == 200) return FULL;
        text += (char) letter;
        return text.length();
    }

    int wipe() {
        int was = text.length();
        text = "";
        return was;
    }

    int fault() {
        for (int at = 0; at < text.length(); at++) {
            if (!canStand(text.substring(0, at), text.charAt(at))) return at;
        }
        int ended = ended(text);
        return ended > 0 && ended == text.indexOf(';') ? NONE : text.length();
    }

    private static int ended(String letters) {
        return (int) letters.chars().filter(letter -> letter == ';').count();
    }

    private static int valueOf(char letter) {
        return letter == '+' ? 1 : letter == '-' ? -1 : 0;
    }

    private static boolean canStand(String before, char letter) {
        if ("+-0;".indexOf(letter) < 0) return false;
        int ended = ended(before);
        int n = before.indexOf(';');
        if (ended > 0 && ended == n) return false;
        String row = before.substring(before.lastIndexOf(';') + 1);
        int rowSum = row.chars().map(sign -> valueOf((char) sign)).sum();
        if (letter == ';') {
            return (ended == 0 ? !row.isEmpty() : row.length() == n) && rowSum == 1;
        }
        if (row.length() >= (ended == 0 ? 6 : n)) return false;
        int columnSum = valueOf(letter);
        String[] rows = before.split(";");
        for (int at = 0; at < ended; at++) columnSum += valueOf(rows[at].charAt(row.length()));
        rowSum += valueOf(letter);
        return (rowSum == 0 || rowSum == 1) && (columnSum == 0 || columnSum == 1);
    }

    int lay() {
        if (fault() != NONE) return NO;
        String[] rows = text.split(";");
        table = new int[rows.length][rows.length];
        for (int r = 0; r < rows.length; r++) {
            for (int c = 0; c < rows.length; c++) table[r][c] = valueOf(rows[r].charAt(c));
        }
        past.clear();
        return rows.length;
    }

    int take(int n, int rank) {
        if (n < 1 || n > 6) return BAD;
        if (rank < 0 || rank >= all(n).size()) return NONE;
        change(all(n).get(rank));
        return n;
    }

    private void change(int[][] to) {
        past.add(table);
        if (past.size() > 6) past.remove(0);
        table = to;
    }

    int undo() {
        if (past.isEmpty()) return NO;
        table = past.remove(past.size() - 1);
        return past.size();
    }

    int keep() {
        other = table;
        return other.length;
    }

    // ---- looked at

    private boolean in(int number, int least, int most) {
        return number >= least && number <= most;
    }

    int sign(int row, int column) {
        int n = table.length;
        return in(row, 0, n - 1) && in(column, 0, n - 1) ? 100 + table[row][column] : BAD;
    }

    private static int cornerOf(int[][] t, int i, int j) {
        int sum = 0;
        for (int r = 0; r < i; r++) for (int c = 0; c < j; c++) sum += t[r][c];
        return sum;
    }

    private static int[][] heights(int[][] t) {
        int n = t.length;
        int[][] h = new int[n + 1][n + 1];
        for (int i = 0; i <= n; i++) for (int j = 0; j <= n; j++) h[i][j] = i + j - 2 * cornerOf(t, i, j);
        return h;
    }

    private static int[][] ofHeights(int[][] h) {
        int n = h.length - 1;
        int[][] t = new int[n][n];
        for (int r = 0; r < n; r++) {
            for (int c = 0; c < n; c++) t[r][c] = (h[r][c + 1] + h[r + 1][c] - h[r][c] - h[r + 1][c + 1]) / 2;
        }
        return t;
    }

    int corner(int i, int j) {
        int n = table.length;
        return in(i, 0, n) && in(j, 0, n) ? cornerOf(table, i, j) : BAD;
    }

    int height(int i, int j) {
        int n = table.length;
        return in(i, 0, n) && in(j, 0, n) ? heights(table)[i][j] : BAD;
    }

    private static boolean can(int[][] h, int i, int j) {
        return h[i - 1][j] == h[i + 1][j] && h[i][j - 1] == h[i][j + 1] && h[i - 1][j] == h[i][j - 1];
    }

    int may(int i, int j) {
        int n = table.length;
        if (!in(i, 1, n - 1) || !in(j, 1, n - 1)) return BAD;
        int[][] h = heights(table);
        return !can(h, i, j) ? 0 : h[i][j] < h[i - 1][j] ? 1 : 2;
    }

    int count(int what) {
        int n = table.length;
        switch (what) {
            case 0: return n;
            case 1: return (int) Arrays.stream(table).flatMapToInt(Arrays::stream).filter(s -> s == -1).count();
            case 2: return flippable();
            case 3: return inversions();
            case 4: return Arrays.stream(heights(table)).flatMapToInt(Arrays::stream).sum();
            case 5: return past.size();
            case 6: return text.length();
            case 7: return other == null ? 0 : other.length;
            case 8: return count(1) == 0 ? 1 : 0;
            case 9: return new Net(table).edges.size();
            case 10: return new Net(table).ringEdges();
            case 11: return new Net(table).rings();
            default: return BAD;
        }
    }

    private int flippable() {
        int found = 0;
        for (int i = 1; i < table.length; i++) {
            for (int j = 1; j < table.length; j++) found += can(heights(table), i, j) ? 1 : 0;
        }
        return found;
    }

    private int inversions() {
        int n = table.length;
        int sum = 0;
        for (int r = 0; r < n; r++) for (int c = 0; c < n; c++) {
            for (int s = r + 1; s < n; s++) for (int d = 0; d < c; d++) sum += table[r][c] * table[s][d];
        }
        return sum;
    }

    // ---- flips

    private static void flipIn(int[][] h, int i, int j) {
        h[i][j] += h[i][j] < h[i - 1][j] ? 2 : -2;
    }

    int flip(int i, int j) {
        int n = table.length;
        if (!in(i, 1, n - 1) || !in(j, 1, n - 1)) return BAD;
        int[][] h = heights(table);
        if (!can(h, i, j)) return NO;
        flipIn(h, i, j);
        change(ofHeights(h));
        return h[i][j];
    }

    private static int gyrateIn(int[][] h) {
        int flips = 0;
        for (int colour = 0; colour < 2; colour++) {
            List<int[]> found = new ArrayList<>();
            for (int i = 1; i < h.length - 1; i++) {
                for (int j = 1; j < h.length - 1; j++) {
                    if ((i + j) % 2 == colour && can(h, i, j)) found.add(new int[] {i, j});
                }
            }
            for (int[] place : found) flipIn(h, place[0], place[1]);
            flips += found.size();
        }
        return flips;
    }

    int gyrate(int n) {
        if (!in(n, 1, 100)) return BAD;
        int[][] h = heights(table);
        int flips = 0;
        for (int time = 0; time < n; time++) flips += gyrateIn(h);
        change(ofHeights(h));
        return flips;
    }

    int orbit() {
        int[][] h = heights(table);
        for (int times = 1; ; times++) {
            gyrateIn(h);
            if (Arrays.deepEquals(ofHeights(h), table)) return times;
        }
    }

    private static int apartOf(int[][] h, int[][] g) {
        int sum = 0;
        for (int i = 0; i < h.length; i++) for (int j = 0; j < h.length; j++) sum += Math.abs(h[i][j] - g[i][j]);
        return sum / 2;
    }

    private boolean noOther() {
        return other == null || other.length != table.length;
    }

    int apart() {
        return noOther() ? NO : apartOf(heights(table), heights(other));
    }

    int next() {
        if (noOther()) return NO;
        if (Arrays.deepEquals(table, other)) return NONE;
        int[][] goal = heights(other);
        for (int i = 1; i < table.length; i++) {
            for (int j = 1; j < table.length; j++) {
                int[][] h = heights(table);
                if (!can(h, i, j)) continue;
                int before = apartOf(h, goal);
                flipIn(h, i, j);
                if (apartOf(h, goal) < before) return 10 * i + j;
            }
        }
        throw new IllegalStateException("there must be a way");
    }

    int both(int which) {
        if (which != 0 && which != 1) return BAD;
        if (noOther()) return NO;
        int[][] h = heights(table);
        int[][] g = heights(other);
        int changed = 0;
        for (int i = 0; i < h.length; i++) {
            for (int j = 0; j < h.length; j++) {
                int then = which == 0 ? Math.min(h[i][j], g[i][j]) : Math.max(h[i][j], g[i][j]);
                changed += then != h[i][j] ? 1 : 0;
                h[i][j] = then;
            }
        }
        change(ofHeights(h));
        return changed;
    }

    private static int[][] quarter(int[][] t) {
        int n = t.length;
        int[][] to = new int[n][n];
        // To the right: the upper row becomes the right column.
        for (int r = 0; r < n; r++) for (int c = 0; c < n; c++) to[c][n - 1 - r] = t[r][c];
        return to;
    }

    private static int[][] transposed(int[][] t) {
        int n = t.length;
        int[][] to = new int[n][n];
        for (int r = 0; r < n; r++) for (int c = 0; c < n; c++) to[c][r] = t[r][c];
        return to;
    }

    private static int[][] mirrored(int[][] t) {
        int n = t.length;
        int[][] to = new int[n][n];
        for (int r = 0; r < n; r++) for (int c = 0; c < n; c++) to[r][n - 1 - c] = t[r][c];
        return to;
    }

    private static int[][] upended(int[][] t) {
        int n = t.length;
        int[][] to = new int[n][];
        for (int r = 0; r < n; r++) to[n - 1 - r] = t[r].clone();
        return to;
    }

    int turn(int k) {
        if (!in(k, 1, 6)) return BAD;
        int[][] to = table;
        for (int time = 0; k < 4 && time < k; time++) to = quarter(to);
        if (k == 4) to = mirrored(to);
        if (k == 5) to = upended(to);
        if (k == 6) to = transposed(to);
        int unlike = 0;
        for (int r = 0; r < to.length; r++) for (int c = 0; c < to.length; c++) unlike += to[r][c] != table[r][c] ? 1 : 0;
        change(to);
        return unlike;
    }

    // ---- lines

    private static boolean drawnAcross(int[][] t, int r, int c) {
        int sum = 0;
        for (int at = 0; at < c; at++) sum += t[r - 1][at];
        return (sum + r + c) % 2 == 0;
    }

    private static boolean drawnDown(int[][] t, int r, int c) {
        int sum = 0;
        for (int at = 0; at < r; at++) sum += t[at][c - 1];
        return (sum + r + c) % 2 == 1;
    }

    int across(int r, int c) {
        int n = table.length;
        return !in(r, 1, n) || !in(c, 0, n) ? BAD : drawnAcross(table, r, c) ? 1 : 0;
    }

    int down(int r, int c) {
        int n = table.length;
        return !in(r, 0, n) || !in(c, 1, n) ? BAD : drawnDown(table, r, c) ? 1 : 0;
    }

    int partner(int end) {
        return in(end, 0, 2 * table.length - 1) ? new Net(table).partners().get(end) : BAD;
    }

    int line(int end) {
        return in(end, 0, 2 * table.length - 1) ? new Net(table).sizeFrom(end) : BAD;
    }

    static List<Integer> partners(int[][] t) {
        return new Net(t).partners();
    }

    static int lineSize(int[][] t, int end) {
        return new Net(t).sizeFrom(end);
    }

    static int ringEdges(int[][] t) {
        return new Net(t).ringEdges();
    }

    static int rings(int[][] t) {
        return new Net(t).rings();
    }

    /** DRAWN EDGES, those of a place joined: parts of it are LINES or RINGS. */
    private static final class Net {
        final Map<String, String> edges = new LinkedHashMap<>();
        final List<String> ends = new ArrayList<>();

        Net(int[][] t) {
            int n = t.length;
            for (int a = 1; a <= n; a++) {
                for (int b = 0; b <= n; b++) {
                    if (drawnAcross(t, a, b)) edges.put("across" + a + b, "across" + a + b);
                    if (drawnDown(t, b, a)) edges.put("down" + b + a, "down" + b + a);
                }
            }
            for (int r = 1; r <= n; r++) for (int c = 1; c <= n; c++) joinAt(r, c);
            for (int c = 1; c <= n; c++) addEnd("down" + 0 + c);
            for (int r = 1; r <= n; r++) addEnd("across" + r + n);
            for (int c = n; c >= 1; c--) addEnd("down" + n + c);
            for (int r = n; r >= 1; r--) addEnd("across" + r + 0);
            if (ends.size() != 2 * n) throw new IllegalStateException("ends");
        }

        private void addEnd(String edge) {
            if (edges.containsKey(edge)) ends.add(edge);
        }

        private void joinAt(int r, int c) {
            List<String> here = new ArrayList<>(List.of("down" + (r - 1) + c, "down" + r + c,
                "across" + r + (c - 1), "across" + r + c));
            here.removeIf(edge -> !edges.containsKey(edge));
            if (here.size() != 2) throw new IllegalStateException("two edges of each place");
            String from = edges.get(here.get(0));
            String to = edges.get(here.get(1));
            edges.replaceAll((edge, part) -> part.equals(from) ? to : part);
        }

        List<Integer> partners() {
            List<Integer> partners = new ArrayList<>();
            for (int a = 0; a < ends.size(); a++) {
                for (int b = 0; b < ends.size(); b++) {
                    if (a != b && edges.get(ends.get(a)).equals(edges.get(ends.get(b)))) partners.add(b);
                }
            }
            if (partners.size() != ends.size()) throw new IllegalStateException("partners");
            return partners;
        }

        int sizeFrom(int end) {
            String part = edges.get(ends.get(end));
            return (int) edges.values().stream().filter(part::equals).count();
        }

        private boolean isRing(String part) {
            return ends.stream().noneMatch(end -> edges.get(end).equals(part));
        }

        int ringEdges() {
            return (int) edges.values().stream().filter(this::isRing).count();
        }

        int rings() {
            return (int) edges.values().stream().filter(this::isRing).distinct().count();
        }
    }

    // ---- all of a size

    static List<int[][]> all(int n) {
        if (!ALL.containsKey(n)) {
            List<int[][]> found = new ArrayList<>();
            extend(new int[n][n], 0, found);
            found.sort(Oracle::inOrder);
            ALL.put(n, found);
            for (int rank = 0; rank < found.size(); rank++) RANKS.put(Arrays.deepToString(found.get(rank)), rank);
        }
        return ALL.get(n);
    }

    private static int inOrder(int[][] a, int[][] b) {
        for (int r = 0; r < a.length; r++) {
            for (int c = 0; c < a.length; c++) {
                if (a[r][c] != b[r][c]) return b[r][c] - a[r][c];
            }
        }
        return 0;
    }

    private static void extend(int[][] t, int at, List<int[][]> found) {
        int n = t.length;
        if (at == n * n) {
            found.add(Arrays.stream(t).map(int[]::clone).toArray(int[][]::new));
            return;
        }
        int r = at / n;
        int c = at % n;
        for (int sign = -1; sign <= 1; sign++) {
            t[r][c] = sign;
            int rowSum = cornerOf(t, r + 1, c + 1) - cornerOf(t, r, c + 1);
            int columnSum = cornerOf(t, r + 1, c + 1) - cornerOf(t, r + 1, c);
            boolean fits = rowSum >= 0 && rowSum <= 1 && columnSum >= 0 && columnSum <= 1;
            fits &= (c < n - 1 || rowSum == 1) && (r < n - 1 || columnSum == 1);
            if (fits) extend(t, at + 1, found);
        }
        t[r][c] = 0;
    }

    int rank() {
        all(table.length);
        return RANKS.get(Arrays.deepToString(table));
    }

    int many(int n, int column) {
        if (n < 1 || n > 6 || column < -1 || column > n - 1) return BAD;
        return (int) all(n).stream().filter(t -> column == -1 || t[0][column] == 1).count();
    }

    private static Map<List<Integer>, Integer> ways(int n) {
        if (!WAYS.containsKey(n)) {
            Map<List<Integer>, Integer> found = new LinkedHashMap<>();
            for (int[][] t : all(n)) found.merge(new Net(t).partners(), 1, Integer::sum);
            WAYS.put(n, found);
        }
        return WAYS.get(n);
    }

    int alike() {
        return table.length == 6 ? NO : ways(table.length).get(new Net(table).partners());
    }

    int ways(int n, int which) {
        if (n < 1 || n > 5 || which < -1) return BAD;
        List<Integer> found = new ArrayList<>(ways(n).values());
        if (which == -1) return found.size();
        return which < found.size() ? found.get(which) : NONE;
    }

    /** THE TABLE in the letters of THE TEXT. */
    static String letters(int[][] t) {
        StringBuilder letters = new StringBuilder();
        for (int[] row : t) {
            for (int sign : row) letters.append("-0+".charAt(sign + 1));
            letters.append(';');
        }
        return letters.toString();
    }
}
