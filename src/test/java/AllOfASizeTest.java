/** Promises 25 to 28: rank, many, alike, ways. */
public final class AllOfASizeTest {
    private static final int BAD = -1, NO = -2, NONE = -4;
    private static final int[] MANY = {1, 2, 7, 42, 429, 7436};
    private static final int[] WAYS = {1, 2, 5, 14, 42};

    public static void main(String[] args) {
        rank();
        everyRank();
        many();
        manyWrong();
        alike();
        ways();
        waysWrong();
        waysAreAlike();
        Due.end();
    }

    private static void rank() {
        Due.same("of one", Due.taken(1, 0).rank(), 0);
        Due.same("at first", new AlternateSigns().rank(), 3);
        Due.same("of two", Due.laid("+0;0+;").rank(), 0);
        Due.same("of two", Due.laid("0+;+0;").rank(), 1);
        Due.same("first of six", Due.laid("+00000;0+0000;00+000;000+00;0000+0;00000+;").rank(), 0);
        Due.same("last of six", Due.laid("00000+;0000+0;000+00;00+000;0+0000;+00000;").rank(), 7435);
        AlternateSigns x = new AlternateSigns();
        x.flip(1, 1);
        Due.same("as it is when asked", x.rank(), 1);
        x.undo();
        Due.same("as it is when asked", x.rank(), 3);
    }

    private static void everyRank() {
        for (int n = 1; n <= 6; n++) {
            for (int rank = 0; rank < MANY[n - 1]; rank++) {
                AlternateSigns x = Due.taken(n, rank);
                Due.same("rank of " + n, x.rank(), rank);
                Due.table("rank " + rank + " of " + n, x, Oracle.letters(Oracle.all(n).get(rank)));
            }
        }
    }

    private static void many() {
        AlternateSigns x = new AlternateSigns();
        int[][] byColumn = {{1}, {1, 1}, {2, 3, 2}, {7, 14, 14, 7}, {42, 105, 135, 105, 42},
            {429, 1287, 2002, 2002, 1287, 429}};
        for (int n = 1; n <= 6; n++) {
            Due.same("many " + n, x.many(n, -1), MANY[n - 1]);
            for (int column = 0; column < n; column++) {
                Due.same("many " + n + " " + column, x.many(n, column), byColumn[n - 1][column]);
            }
        }
    }

    private static void manyWrong() {
        AlternateSigns x = new AlternateSigns();
        for (int n : new int[] {Integer.MIN_VALUE, -1, 0, 7, Integer.MAX_VALUE}) {
            Due.same("many " + n, x.many(n, -1), BAD);
            Due.same("many " + n, x.many(n, 0), BAD);
        }
        for (int n = 1; n <= 6; n++) {
            for (int column : new int[] {Integer.MIN_VALUE, -2, n, 7, Integer.MAX_VALUE}) {
                Due.same("many " + n + " " + column, x.many(n, column), BAD);
            }
        }
    }

    private static void alike() {
        Due.same("of one", Due.taken(1, 0).alike(), 1);
        Due.same("of two", Due.taken(2, 0).alike(), 1);
        Due.same("of two", Due.taken(2, 1).alike(), 1);
        int ofTwo = 0;
        for (int rank = 0; rank < 7; rank++) {
            int alike = Due.taken(3, rank).alike();
            ofTwo += alike == 2 ? 1 : 0;
            Due.holds("one or two of three", alike == 1 || alike == 2);
        }
        Due.same("two ways have two tables", ofTwo, 4);
        Due.same("of four, with a ring", Due.laid("0+00;000+;+000;00+0;").alike(), 7);
        Due.same("of six", Due.taken(6, 0).alike(), NO);
        Due.same("of six", Due.taken(6, 7435).alike(), NO);
        AlternateSigns x = Due.taken(5, 17);
        int alike = x.alike();
        x.ways(4, 2);
        x.partner(0);
        Due.same("the same again", x.alike(), alike);
        Due.same("nothing changes", x.rank(), 17);
        Due.same("nothing changes", x.count(5), 1);
    }

    private static void ways() {
        AlternateSigns x = new AlternateSigns();
        for (int n = 1; n <= 5; n++) {
            Due.same("ways " + n, x.ways(n, -1), WAYS[n - 1]);
            int sum = 0;
            int most = 0;
            for (int which = 0; which < WAYS[n - 1]; which++) {
                int tables = x.ways(n, which);
                Due.holds("at least one", tables >= 1);
                sum += tables;
                most = Math.max(most, tables);
            }
            Due.same("all together of " + n, sum, MANY[n - 1]);
            // Razumov and Stroganov: the most of a way are as many as all tables of one less.
            Due.same("the most of " + n, most, n == 1 ? 1 : MANY[n - 2]);
        }
        int[] threes = {1, 2, 2, 1, 1};
        for (int which = 0; which < 5; which++) {
            Due.same("ways 3 " + which, x.ways(3, which), threes[which]);
        }
        Due.same("nothing changes", x.count(5), 0);
        Due.table("nothing changes", x, "0+0;+-+;0+0;");
    }

    private static void waysWrong() {
        AlternateSigns x = new AlternateSigns();
        for (int n : new int[] {Integer.MIN_VALUE, -1, 0, 6, 7, Integer.MAX_VALUE}) {
            Due.same("ways " + n, x.ways(n, -1), BAD);
            Due.same("ways " + n, x.ways(n, 0), BAD);
            Due.same("bad is told first", x.ways(n, 1000), BAD);
        }
        for (int n = 1; n <= 5; n++) {
            Due.same("which below", x.ways(n, -2), BAD);
            Due.same("which far below", x.ways(n, Integer.MIN_VALUE), BAD);
            Due.same("not so many", x.ways(n, WAYS[n - 1]), NONE);
            Due.same("not nearly so many", x.ways(n, Integer.MAX_VALUE), NONE);
        }
    }

    /** The i-th way is that of the i-th table, by rank, which joins its ends as none ahead of it. */
    private static void waysAreAlike() {
        for (int n = 1; n <= 5; n++) {
            java.util.Set<String> seen = new java.util.HashSet<>();
            for (int rank = 0; rank < MANY[n - 1]; rank++) {
                AlternateSigns x = Due.taken(n, rank);
                StringBuilder partners = new StringBuilder();
                for (int end = 0; end < 2 * n; end++) {
                    partners.append(x.partner(end)).append(' ');
                }
                if (seen.add(partners.toString())) {
                    Due.same("way of rank " + rank, x.ways(n, seen.size() - 1), x.alike());
                }
            }
        }
    }
}
