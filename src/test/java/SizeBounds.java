import java.util.ArrayList;
import java.util.LinkedHashMap;
import java.util.List;
import java.util.Map;

/** Sentences of promises 25 to 28: rank, many, alike, ways. */
final class SizeBounds extends Bounds {
    private static final int[] WAYS = {1, 2, 5, 14, 42};

    private SizeBounds() {
    }

    static void all() {
        rank();
        manyByColumn();
        manyOfAll();
        manyBad();
        alike();
        alikeNo();
        waysOfAll();
        waysByTheLowestRank();
        waysBad();
        waysNone();
    }

    private static void rank() {
        Document.says("Promise 25", "RANK of THE TABLE.");
        for (int n = 1; n <= 6; n++) {
            for (int rank = 0; rank < MANY[n - 1]; rank++) {
                AlternateSigns x = new AlternateSigns();
                x.take(n, rank);
                Due.same("rank" + of(n, rank), x.rank(), rank);
            }
            Due.same("the first of N " + n, Due.laid(letters(n, 0)).rank(), 0);
            Due.same("the last of N " + n, Due.laid(letters(n, MANY[n - 1] - 1)).rank(), MANY[n - 1] - 1);
        }
        Due.same("a new object", new AlternateSigns().rank(), 3);
    }

    private static void manyByColumn() {
        Document.says("Promise 26", "How many TABLES of N (n 1 to 6) have the first 1 of row 0 in a column (0 to n - 1),");
        for (int n = 1; n <= 6; n++) {
            int[] due = new int[n];
            for (int rank = 0; rank < MANY[n - 1]; rank++) {
                int column = 0;
                while (table(n, rank)[0][column] != 1) {
                    column++;
                }
                due[column]++;
            }
            for (Standing standing : Standing.ofSize(n)) {
                for (int m = 1; m <= 6; m++) {
                    AlternateSigns x = standing.made();
                    for (int column = 0; column < n; column++) {
                        Due.same("many " + n + " " + column, x.many(n, column), due[column]);
                    }
                    x.take(m, 0);
                    Due.same("whatever N is", x.many(n, 0), due[0]);
                    Due.same("whatever N is", x.many(n, n - 1), due[n - 1]);
                }
            }
        }
    }

    private static void manyOfAll() {
        Document.says("Promise 26", "all (column = -1).");
        for (int n = 1; n <= 6; n++) {
            AlternateSigns x = new AlternateSigns();
            int sum = 0;
            for (int column = 0; column < n; column++) {
                sum += x.many(n, column);
            }
            Due.same("many " + n + " -1", x.many(n, -1), MANY[n - 1]);
            Due.same("columns of N " + n + " together", sum, MANY[n - 1]);
            Due.same("first asked", new AlternateSigns().many(n, -1), MANY[n - 1]);
        }
    }

    private static void manyBad() {
        Document.says("Promise 26", "BAD.");
        for (int n : beyond(1, 6)) {
            for (int column : new int[] {-2, -1, 0, 1, 5, 6, n - 1, n}) {
                isRefused("many " + n + " " + column, x -> x.many(n, column), BAD);
            }
        }
        for (int n = 1; n <= 6; n++) {
            int size = n;
            for (int column : beyond(-1, n - 1)) {
                isRefused("many " + n + " " + column, x -> x.many(size, column), BAD);
            }
        }
    }

    private static List<Integer> partnersOf(AlternateSigns x, int n) {
        List<Integer> partners = new ArrayList<>();
        for (int end = 0; end < 2 * n; end++) {
            partners.add(x.partner(end));
        }
        return partners;
    }

    /** How many tables have each way, those ways first whose first table is ahead. */
    private static Map<List<Integer>, Integer> tally(int n) {
        Map<List<Integer>, Integer> found = new LinkedHashMap<>();
        for (int rank = 0; rank < MANY[n - 1]; rank++) {
            found.merge(partnersOf(Due.taken(n, rank), n), 1, Integer::sum);
        }
        return found;
    }

    private static void alike() {
        Document.says("Promise 27", "How many TABLES of N of THE TABLE have the PARTNERS that it has (itself, too).");
        for (int n = 1; n <= 5; n++) {
            Map<List<Integer>, Integer> due = tally(n);
            for (int rank = 0; rank < MANY[n - 1]; rank++) {
                AlternateSigns x = Due.taken(n, rank);
                Due.same("alike" + of(n, rank), x.alike(), due.get(partnersOf(x, n)));
                Due.same("asked again" + of(n, rank), x.alike(), due.get(partnersOf(x, n)));
            }
            Due.same("the first of N " + n + " has none but itself", Due.taken(n, 0).alike(), 1);
        }
        int[] mostOf = {1, 1, 2, 7, 42};
        for (int n = 1; n <= 5; n++) {
            int most = 0;
            for (int rank = 0; rank < MANY[n - 1]; rank++) {
                most = Math.max(most, Due.taken(n, rank).alike());
            }
            Due.same("the most of N " + n, most, mostOf[n - 1]);
        }
        otherSizesBetween();
    }

    /** What was asked of tables of another size does not matter. */
    private static void otherSizesBetween() {
        for (int n = 1; n <= 5; n++) {
            for (int rank : ranks(n, 20)) {
                AlternateSigns x = Due.taken(n, rank);
                int due = x.alike();
                for (int m = 1; m <= 6; m++) {
                    for (int between : ranks(m, 6)) {
                        x.take(m, between);
                        x.line(2 * m - 1);
                        x.alike();
                        x.undo();
                        Due.same("alike" + of(n, rank) + " behind" + of(m, between), x.alike(), due);
                    }
                }
            }
        }
    }

    private static void alikeNo() {
        Document.says("Promise 27", "NO: N is 6.");
        isRefusedOf(6, "alike", x -> x.alike(), NO);
        for (int rank : ranks(6, 100)) {
            Due.same("alike" + of(6, rank), Due.taken(6, rank).alike(), NO);
        }
        Due.holds("not of N 5", Due.taken(5, 0).alike() == 1);
    }

    private static void waysOfAll() {
        Document.says("Promise 28", "How many unlike ways of PARTNERS TABLES of N (n 1 to 5) have (which = -1);");
        for (int n = 1; n <= 5; n++) {
            Due.same("ways " + n + " -1", new AlternateSigns().ways(n, -1), WAYS[n - 1]);
            Due.same("as counted", tally(n).size(), WAYS[n - 1]);
            for (int m = 1; m <= 6; m++) {
                Due.same("whatever N is", Due.taken(m, 0).ways(n, -1), WAYS[n - 1]);
            }
        }
    }

    private static void waysByTheLowestRank() {
        Document.says("Promise 28", "how many TABLES have the i-th of these, by the lowest RANK of such a TABLE (which ="
            + " i).");
        for (int n = 1; n <= 5; n++) {
            List<Integer> due = new ArrayList<>(tally(n).values());
            AlternateSigns x = new AlternateSigns();
            for (int which = 0; which < due.size(); which++) {
                Due.same("ways " + n + " " + which, x.ways(n, which), due.get(which));
            }
            for (int which = due.size() - 1; which >= 0; which--) {
                Due.same("ways " + n + " " + which + " backward", x.ways(n, which), due.get(which));
                Due.same("first asked", new AlternateSigns().ways(n, which), due.get(which));
            }
        }
        int[] threes = {1, 2, 2, 1, 1};
        for (int which = 0; which < 5; which++) {
            Due.same("ways 3 " + which, new AlternateSigns().ways(3, which), threes[which]);
        }
    }

    private static void waysBad() {
        Document.says("Promise 28", "BAD (n; which below -1);");
        for (int n : beyond(1, 5)) {
            for (int which : new int[] {-2, -1, 0, 1, 41, 42, Integer.MIN_VALUE, Integer.MAX_VALUE}) {
                isRefused("ways " + n + " " + which, x -> x.ways(n, which), BAD);
            }
        }
        for (int n = 1; n <= 5; n++) {
            int size = n;
            for (int which : new int[] {-2, -3, Integer.MIN_VALUE, Integer.MIN_VALUE + 1, -65536}) {
                isRefused("ways " + n + " " + which, x -> x.ways(size, which), BAD);
            }
        }
    }

    private static void waysNone() {
        Document.says("Promise 28", "NONE: not so many.");
        for (int n = 1; n <= 5; n++) {
            int size = n;
            int ways = WAYS[n - 1];
            for (int which : new int[] {ways, ways + 1, ways + 256, 65536, Integer.MAX_VALUE}) {
                isRefused("ways " + n + " " + which, x -> x.ways(size, which), NONE);
            }
            Due.holds("the last there is", new AlternateSigns().ways(n, ways - 1) >= 1);
        }
    }
}
