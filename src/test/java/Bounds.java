/** What the tests of sentences share: ranges with what lies beyond them, and tables of each size. */
abstract class Bounds {
    static final int BAD = -1, NO = -2, FULL = -3, NONE = -4;
    static final int[] MANY = {1, 2, 7, 42, 429, 7436};
    /** At most so many calls of an object have answers that are promised. */
    static final int MOST_CALLS = 512;

    /** Just beyond a range at both sides, far beyond, and what fewer bits would take for one of it. */
    static int[] beyond(int least, int most) {
        return new int[] {least - 1, most + 1, least - 2, most + 2, Integer.MIN_VALUE, Integer.MAX_VALUE,
            least + 256, most + 65536, Integer.MIN_VALUE + most};
    }

    /** That it is refused in whatever way things stand, and nothing changes. */
    static void isRefused(String call, Standing.Call called, int due) {
        for (int n = 1; n <= 6; n++) {
            isRefusedOf(n, call, called, due);
        }
    }

    /** That it is refused while THE TABLE has this N, and nothing changes. */
    static void isRefusedOf(int n, String call, Standing.Call called, int due) {
        for (Standing standing : Standing.ofSize(n)) {
            standing.keepsStill(call, called, due);
        }
    }

    /** Ranks of a size from the first to the last, some so many if there are more. */
    static int[] ranks(int n, int some) {
        int last = MANY[n - 1] - 1;
        int step = Math.max(1, last / some);
        int[] found = new int[last / step + 1];
        for (int at = 0; at < found.length; at++) {
            found[at] = at * step;
        }
        found[found.length - 1] = last;
        return found;
    }

    static int[][] table(int n, int rank) {
        return Oracle.all(n).get(rank);
    }

    static String letters(int n, int rank) {
        return Oracle.letters(table(n, rank));
    }

    static String of(int n, int rank) {
        return " of rank " + rank + " of N " + n;
    }

    static void isTable(String when, AlternateSigns x, int n, int rank) {
        Due.table(when, x, letters(n, rank));
    }
}
