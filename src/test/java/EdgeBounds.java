import java.util.ArrayList;
import java.util.Arrays;
import java.util.List;

/** Sentences on edges, ends, lines and rings. */
final class EdgeBounds extends Bounds {
    private static final String TERMS = "Terms";
    private static final int ABOVE = 0, RIGHT = 1, BELOW = 2, LEFT = 3;
    private static final int[] DOWN_BY = {-1, 0, 1, 0};
    private static final int[] RIGHT_BY = {0, 1, 0, -1};

    private EdgeBounds() {
    }

    static void all() {
        edgesAheadBetweenAndBehind();
        edgesOfRows();
        edgesOfColumns();
        twoOfEachPlaceAndTwiceNAtTheRim();
        endsRoundFromTheUpperLeft();
        linesAndPartners();
        ringsAreTheRest();
    }

    private static int sumOfRow(int[][] signs, int row, int places) {
        int sum = 0;
        for (int column = 0; column < places; column++) {
            sum += signs[row][column];
        }
        return sum;
    }

    private static int sumOfColumn(int[][] signs, int column, int places) {
        int sum = 0;
        for (int row = 0; row < places; row++) {
            sum += signs[row][column];
        }
        return sum;
    }

    /** Whether the edge at a side of the place in row r and column c, both from 1 on, is drawn. */
    private static boolean isDrawn(int[][] signs, int r, int c, int side) {
        int ahead = side == LEFT ? c - 1 : c;
        int above = side == ABOVE ? r - 1 : r;
        return side == LEFT || side == RIGHT
            ? (sumOfRow(signs, r - 1, ahead) + r + ahead) % 2 == 0
            : (sumOfColumn(signs, c - 1, above) + above + c) % 2 == 1;
    }

    private static void edgesAheadBetweenAndBehind() {
        Document.onlyTells(TERMS, "======== 3");
        Document.says(TERMS, "LINES: between two places side by side in a row, and ahead of the first, behind the last one"
            + " of it, is an EDGE; likewise in columns.");
        for (int n = 1; n <= 6; n++) {
            for (int rank : ranks(n, 20)) {
                AlternateSigns x = Due.taken(n, rank);
                for (int number = 1; number <= n; number++) {
                    int edges = 0;
                    for (int places = -2; places <= n + 2; places++) {
                        edges += x.across(number, places) >= 0 ? 1 : 0;
                        edges += x.down(places, number) >= 0 ? 1 : 0;
                    }
                    Due.same("edges of row and column " + number + of(n, rank), edges, 2 * (n + 1));
                    Due.holds("one ahead of the first", x.across(number, 0) >= 0 && x.down(0, number) >= 0);
                    Due.holds("none ahead of that", x.across(number, -1) == BAD && x.down(-1, number) == BAD);
                    Due.holds("one behind the last", x.across(number, n) >= 0 && x.down(n, number) >= 0);
                    Due.holds("none behind that", x.across(number, n + 1) == BAD && x.down(n + 1, number) == BAD);
                }
            }
        }
    }

    private static void edgesOfRows() {
        Document.says(TERMS, "With r 1 to N the row from above and c 0 to N how many places are ahead of it, an EDGE of a"
            + " row is DRAWN, if the sum of SIGNS of the row ahead of it, r and c together are even;");
        for (int n = 1; n <= 6; n++) {
            for (int rank : ranks(n, 1000)) {
                AlternateSigns x = Due.taken(n, rank);
                for (int r = 1; r <= n; r++) {
                    for (int c = 0; c <= n; c++) {
                        int sum = sumOfRow(table(n, rank), r - 1, c);
                        Due.same("across " + r + " " + c + of(n, rank), x.across(r, c), (sum + r + c) % 2 == 0 ? 1 : 0);
                    }
                    Due.same("ahead of the first place nothing is summed", x.across(r, 0), r % 2 == 0 ? 1 : 0);
                    Due.same("behind the last all is summed: 1", x.across(r, n), (1 + r + n) % 2 == 0 ? 1 : 0);
                }
            }
        }
    }

    private static void edgesOfColumns() {
        Document.says(TERMS, "with c 1 to N the column and r 0 to N how many places are above it, an EDGE of a column is"
            + " DRAWN, if the sum of SIGNS of the column above it, r and c together are uneven.");
        for (int n = 1; n <= 6; n++) {
            for (int rank : ranks(n, 1000)) {
                AlternateSigns x = Due.taken(n, rank);
                for (int c = 1; c <= n; c++) {
                    for (int r = 0; r <= n; r++) {
                        int sum = sumOfColumn(table(n, rank), c - 1, r);
                        Due.same("down " + r + " " + c + of(n, rank), x.down(r, c), (sum + r + c) % 2 == 1 ? 1 : 0);
                    }
                    Due.same("above the first place nothing is summed", x.down(0, c), c % 2 == 1 ? 1 : 0);
                    Due.same("below the last all is summed: 1", x.down(n, c), (1 + n + c) % 2 == 1 ? 1 : 0);
                }
            }
        }
    }

    private static void twoOfEachPlaceAndTwiceNAtTheRim() {
        Document.says(TERMS, "So two EDGES of each place are DRAWN, and 2 N of those at the rim:");
        for (int n = 1; n <= 6; n++) {
            for (int rank : ranks(n, 500)) {
                AlternateSigns x = Due.taken(n, rank);
                int rim = 0;
                for (int r = 1; r <= n; r++) {
                    for (int c = 1; c <= n; c++) {
                        int drawn = x.across(r, c - 1) + x.across(r, c) + x.down(r - 1, c) + x.down(r, c);
                        Due.same("edges of place " + r + " " + c + of(n, rank), drawn, 2);
                    }
                    rim += x.across(r, 0) + x.across(r, n) + x.down(0, r) + x.down(n, r);
                }
                Due.same("edges at the rim" + of(n, rank), rim, 2 * n);
            }
        }
    }

    /** Each END as {r, c, side}: its place, both numbers from 1 on, and where its edge is. */
    private static List<int[]> endsOf(int[][] signs) {
        int n = signs.length;
        List<int[]> rim = new ArrayList<>();
        for (int c = 1; c <= n; c++) {
            rim.add(new int[] {1, c, ABOVE});
        }
        for (int r = 1; r <= n; r++) {
            rim.add(new int[] {r, n, RIGHT});
        }
        for (int c = n; c >= 1; c--) {
            rim.add(new int[] {n, c, BELOW});
        }
        for (int r = n; r >= 1; r--) {
            rim.add(new int[] {r, 1, LEFT});
        }
        rim.removeIf(end -> !isDrawn(signs, end[0], end[1], end[2]));
        return rim;
    }

    /** From an END through places to another: {that END, how many edges}. */
    private static int[] walk(int[][] signs, List<int[]> ends, int end) {
        int[] at = ends.get(end).clone();
        int n = signs.length;
        int edges = 1;
        while (true) {
            int out = 0;
            while (out == at[2] || !isDrawn(signs, at[0], at[1], out)) {
                out++;
            }
            edges++;
            int r = at[0] + DOWN_BY[out];
            int c = at[1] + RIGHT_BY[out];
            if (r < 1 || c < 1 || r > n || c > n) {
                int[] last = {at[0], at[1], out};
                for (int other = 0; other < ends.size(); other++) {
                    if (Arrays.equals(ends.get(other), last)) {
                        return new int[] {other, edges};
                    }
                }
            }
            at = new int[] {r, c, (out + 2) % 4};
        }
    }

    private static void endsRoundFromTheUpperLeft() {
        Document.says(TERMS, "ENDS 0 to 2 N - 1, from the upper left on round: those above from the left on, those at the"
            + " right from above on, those below from the right on, those at the left from below on.");
        joined("+;", 1, 0);
        // A line from above to the left round the corner, and one from below to the right.
        joined("+0;0+;", 3, 2, 1, 0);
        joined("0+;+0;", 1, 0, 3, 2);
        joined("+00;0+0;00+;", 5, 4, 3, 2, 1, 0);
        joined("00+;0+0;+00;", 3, 2, 1, 0, 5, 4);
        joined("0+0;+-+;0+0;", 1, 0, 5, 4, 3, 2);
        for (int n = 1; n <= 6; n++) {
            for (int rank : ranks(n, 50)) {
                AlternateSigns x = Due.taken(n, rank);
                Due.same("as many ends" + of(n, rank), endsOf(table(n, rank)).size(), 2 * n);
                Due.holds("END 0", x.partner(0) >= 0 && x.line(0) >= 2);
                Due.holds("END 2 N - 1", x.partner(2 * n - 1) >= 0 && x.line(2 * n - 1) >= 2);
                Due.holds("no END -1", x.partner(-1) == BAD && x.line(-1) == BAD);
                Due.holds("no END 2 N", x.partner(2 * n) == BAD && x.line(2 * n) == BAD);
            }
        }
    }

    private static void joined(String letters, int... partners) {
        AlternateSigns x = Due.laid(letters);
        for (int end = 0; end < partners.length; end++) {
            Due.same("partner " + end + " of " + letters, x.partner(end), partners[end]);
        }
    }

    private static void linesAndPartners() {
        Document.says(TERMS, "A LINE goes from an END by DRAWN EDGES to another one, its PARTNER;");
        for (int n = 1; n <= 6; n++) {
            for (int rank : ranks(n, 1000)) {
                AlternateSigns x = Due.taken(n, rank);
                List<int[]> ends = endsOf(table(n, rank));
                for (int end = 0; end < 2 * n; end++) {
                    int[] due = walk(table(n, rank), ends, end);
                    Due.same("partner " + end + of(n, rank), x.partner(end), due[0]);
                    Due.same("line " + end + of(n, rank), x.line(end), due[1]);
                    Due.holds("another one" + of(n, rank), due[0] != end);
                }
            }
        }
    }

    private static void ringsAreTheRest() {
        Document.says(TERMS, "DRAWN EDGES on no such LINE are RINGS.");
        for (int n = 1; n <= 6; n++) {
            int most = 0;
            for (int rank : ranks(n, 1000)) {
                AlternateSigns x = Due.taken(n, rank);
                int onLines = 0;
                for (int end = 0; end < 2 * n; end++) {
                    onLines += x.line(end);
                }
                int left = n * n + n - onLines / 2;
                Due.same("edges on rings" + of(n, rank), x.count(10), left);
                Due.holds("rings" + of(n, rank), x.count(11) > 0 == left > 0);
                most = Math.max(most, left);
            }
            Due.holds("rings from N 4 on", most > 0 == n >= 4);
        }
    }
}
