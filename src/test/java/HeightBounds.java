import java.util.ArrayDeque;
import java.util.Arrays;
import java.util.Deque;

/** Sentences on corners, heights and flips: what can be flipped, how far apart, next, gyrations. */
final class HeightBounds extends Bounds {
    private static final String TERMS = "Terms";

    private HeightBounds() {
    }

    static void all() {
        cornersFrom0ToN();
        heights();
        whatCanBeFlipped();
        ownHeightThen();
        allOthersStay();
        apart();
        apartIsHowManyFlips();
        next();
        gyrated();
        orbits();
    }

    private static int sumOf(int[][] signs, int rows, int columns) {
        int sum = 0;
        for (int at = 0; at < rows * columns; at++) {
            sum += signs[at / columns][at % columns];
        }
        return sum;
    }

    static int[][] heightsOf(int[][] signs) {
        int n = signs.length;
        int[][] heights = new int[n + 1][n + 1];
        for (int i = 0; i <= n; i++) {
            for (int j = 0; j <= n; j++) {
                heights[i][j] = i + j - 2 * (i * j == 0 ? 0 : sumOf(signs, i, j));
            }
        }
        return heights;
    }

    static boolean canBeFlipped(int[][] heights, int i, int j) {
        int around = heights[i - 1][j];
        return heights[i + 1][j] == around && heights[i][j - 1] == around && heights[i][j + 1] == around;
    }

    static int flippedTo(int[][] heights, int i, int j) {
        int around = heights[i - 1][j];
        return heights[i][j] == around + 1 ? around - 1 : around + 1;
    }

    private static int apartOf(int[][] some, int[][] others) {
        int sum = 0;
        for (int i = 0; i < some.length; i++) {
            for (int j = 0; j < some.length; j++) {
                sum += Math.abs(some[i][j] - others[i][j]);
            }
        }
        return sum / 2;
    }

    static void hasHeights(String when, AlternateSigns x, int[][] want) {
        for (int i = 0; i < want.length; i++) {
            for (int j = 0; j < want.length; j++) {
                Due.same(when + ", height " + i + " " + j, x.height(i, j), want[i][j]);
            }
        }
    }

    /** SIGNS by heights: each is half of what its four corners are apart crosswise. */
    static void hasSigns(String when, AlternateSigns x, int[][] heights) {
        for (int row = 0; row < heights.length - 1; row++) {
            for (int column = 0; column < heights.length - 1; column++) {
                int twice = heights[row][column + 1] + heights[row + 1][column] - heights[row][column]
                    - heights[row + 1][column + 1];
                Due.same(when + ", sign " + row + " " + column, x.sign(row, column), 100 + twice / 2);
            }
        }
    }

    private static void cornersFrom0ToN() {
        Document.onlyTells(TERMS, "======== 2");
        Document.says(TERMS, "CORNER of (i, j), i and j 0 to N: the sum of all SIGNS in rows less than i and columns less"
            + " than j.");
        for (int n = 1; n <= 6; n++) {
            for (int rank : ranks(n, 1000)) {
                AlternateSigns x = Due.taken(n, rank);
                for (int at = 0; at <= n; at++) {
                    Due.same("no row is less than 0", x.corner(0, at), 0);
                    Due.same("no column is less than 0", x.corner(at, 0), 0);
                    Due.same("all rows", x.corner(n, at), at);
                    Due.same("all columns", x.corner(at, n), at);
                }
                for (int at = 1; at <= n * n; at++) {
                    int i = (at - 1) / n + 1;
                    int j = (at - 1) % n + 1;
                    Due.same("corner " + i + " " + j + of(n, rank), x.corner(i, j), sumOf(table(n, rank), i, j));
                }
            }
            AlternateSigns x = Due.taken(n, 0);
            Due.same("not less than 0", x.corner(-1, n), BAD);
            Due.same("not less than 0", x.corner(n, -1), BAD);
            Due.same("not more than N", x.corner(n + 1, 0), BAD);
            Due.same("not more than N", x.corner(0, n + 1), BAD);
        }
    }

    private static void heights() {
        Document.says(TERMS, "HEIGHT of (i, j): i and j less 2 CORNER.");
        for (int n = 1; n <= 6; n++) {
            for (int rank : ranks(n, 1000)) {
                AlternateSigns x = Due.taken(n, rank);
                hasHeights("taken" + of(n, rank), x, heightsOf(table(n, rank)));
                for (int at = 0; at <= n; at++) {
                    Due.same("above", x.height(0, at), at);
                    Due.same("at the left", x.height(at, 0), at);
                    Due.same("below", x.height(n, at), n - at);
                    Due.same("at the right", x.height(at, n), n - at);
                }
            }
        }
    }

    private static void whatCanBeFlipped() {
        Document.says(TERMS, "(i, j), i and j 1 to N - 1, can be FLIPPED, if the HEIGHTS of (i - 1, j), (i + 1, j),"
            + " (i, j - 1), (i, j + 1) are alike:");
        for (int n = 1; n <= 6; n++) {
            for (int rank : ranks(n, 1000)) {
                int[][] heights = heightsOf(table(n, rank));
                AlternateSigns x = Due.taken(n, rank);
                int found = 0;
                for (int i = 1; i < n; i++) {
                    for (int j = 1; j < n; j++) {
                        boolean can = canBeFlipped(heights, i, j);
                        found += can ? 1 : 0;
                        Due.holds("may " + i + " " + j + of(n, rank), x.may(i, j) > 0 == can);
                    }
                }
                Due.same("count 2" + of(n, rank), x.count(2), found);
                Due.holds("some can from N 2 on" + of(n, rank), found > 0 == n > 1);
            }
            AlternateSigns x = Due.taken(n, 0);
            for (int at = 0; at <= n; at++) {
                Due.same("not at the rim", x.flip(0, at), BAD);
                Due.same("not at the rim", x.flip(n, at), BAD);
                Due.same("not at the rim", x.flip(at, 0), BAD);
                Due.same("not at the rim", x.flip(at, n), BAD);
            }
        }
        threeOfFourAreNotEnough();
    }

    /** One of the four is unlike, each of them once: 3, 3, 3 and 1, or the other way round. */
    private static void threeOfFourAreNotEnough() {
        boolean[] unlike = new boolean[4];
        for (int rank = 0; rank < MANY[3]; rank++) {
            int[][] h = heightsOf(table(4, rank));
            AlternateSigns x = Due.taken(4, rank);
            for (int i = 1; i < 4; i++) {
                for (int j = 1; j < 4; j++) {
                    int[] four = {h[i - 1][j], h[i + 1][j], h[i][j - 1], h[i][j + 1]};
                    for (int one = 0; one < 4; one++) {
                        int other = four[(one + 1) % 4];
                        boolean isOnlyOne = four[one] != other && four[(one + 2) % 4] == other && four[(one + 3) % 4] == other;
                        unlike[one] |= isOnlyOne;
                        Due.holds("three are not enough", !isOnlyOne || x.may(i, j) == 0);
                    }
                }
            }
        }
        Due.holds("each was unlike once " + Arrays.toString(unlike), unlike[0] && unlike[1] && unlike[2] && unlike[3]);
    }

    private static void ownHeightThen() {
        Document.says(TERMS, "its own HEIGHT, 1 more than theirs, is 1 less than theirs then, or the other way round;");
        for (int n = 2; n <= 6; n++) {
            for (int rank : ranks(n, 300)) {
                int[][] heights = heightsOf(table(n, rank));
                for (int i = 1; i < n; i++) {
                    for (int j = 1; j < n; j++) {
                        if (canBeFlipped(heights, i, j)) {
                            int then = flippedTo(heights, i, j);
                            AlternateSigns x = Due.taken(n, rank);
                            Due.same("flip " + i + " " + j + of(n, rank), x.flip(i, j), then);
                            Due.same("height then", x.height(i, j), then);
                            Due.same("and the other way round", x.flip(i, j), heights[i][j]);
                            Due.same("height then", x.height(i, j), heights[i][j]);
                        }
                    }
                }
            }
        }
    }

    private static void allOthersStay() {
        Document.says(TERMS, "all others stay (SIGNS follow: THE TABLE is another one).");
        for (int n = 2; n <= 6; n++) {
            for (int rank : ranks(n, 150)) {
                for (int i = 1; i < n; i++) {
                    for (int j = 1; j < n; j++) {
                        int[][] heights = heightsOf(table(n, rank));
                        AlternateSigns x = Due.taken(n, rank);
                        if (x.flip(i, j) >= 0) {
                            heights[i][j] = flippedTo(heights, i, j);
                            Due.holds("another one" + of(n, rank), x.rank() != rank);
                        }
                        hasHeights("flip " + i + " " + j + of(n, rank), x, heights);
                        hasSigns("flip " + i + " " + j + of(n, rank), x, heights);
                    }
                }
            }
        }
    }

    private static void apart() {
        Document.says(TERMS, "APART are two TABLES of one N by how far their HEIGHTS are from each other, all together, by"
            + " 2.");
        for (int n = 1; n <= 6; n++) {
            for (int goal : ranks(n, 42)) {
                for (int rank : ranks(n, 42)) {
                    AlternateSigns x = Due.taken(n, goal);
                    x.keep();
                    x.take(n, rank);
                    Due.same("apart" + of(n, rank) + " and" + of(n, goal), x.apart(),
                        apartOf(heightsOf(table(n, rank)), heightsOf(table(n, goal))));
                }
            }
            AlternateSigns x = Due.taken(n, 0);
            x.keep();
            Due.same("a table and itself", x.apart(), 0);
            x.take(n, MANY[n - 1] - 1);
            Due.same("the first and the last of N " + n, x.apart(), n * (n * n - 1) / 6);
        }
    }

    /** Over all flips of all tables up to N 4 from each one. */
    private static void apartIsHowManyFlips() {
        Document.says("What it is", "how many flips two tables are apart,");
        for (int n = 1; n <= 4; n++) {
            for (int goal = 0; goal < MANY[n - 1]; goal++) {
                int[] far = flipsFrom(n, goal);
                for (int rank = 0; rank < MANY[n - 1]; rank++) {
                    AlternateSigns x = Due.taken(n, goal);
                    x.keep();
                    x.take(n, rank);
                    Due.same("apart" + of(n, rank) + " and" + of(n, goal), x.apart(), far[rank]);
                }
            }
        }
    }

    private static int[] flipsFrom(int n, int start) {
        int[] far = new int[MANY[n - 1]];
        Arrays.fill(far, -1);
        far[start] = 0;
        Deque<Integer> open = new ArrayDeque<>();
        open.add(start);
        while (!open.isEmpty()) {
            int rank = open.remove();
            for (int at = 0; at < (n - 1) * (n - 1); at++) {
                AlternateSigns x = Due.taken(n, rank);
                x.flip(at / (n - 1) + 1, at % (n - 1) + 1);
                int reached = x.rank();
                if (far[reached] < 0) {
                    far[reached] = far[rank] + 1;
                    open.add(reached);
                }
            }
        }
        return far;
    }

    private static int nextOf(int[][] heights, int[][] goal) {
        int apart = apartOf(heights, goal);
        for (int i = 1; i < heights.length - 1; i++) {
            for (int j = 1; j < heights.length - 1; j++) {
                if (canBeFlipped(heights, i, j)) {
                    int was = heights[i][j];
                    heights[i][j] = flippedTo(heights, i, j);
                    boolean isLess = apartOf(heights, goal) < apart;
                    heights[i][j] = was;
                    if (isLess) {
                        return 10 * i + j;
                    }
                }
            }
        }
        return NONE;
    }

    private static void next() {
        Document.says(TERMS, "NEXT on the way to THE OTHER: the first (i, j) (the lowest i, then j) that can be FLIPPED so"
            + " that they are less APART.");
        for (int n = 1; n <= 6; n++) {
            for (int goal : ranks(n, 42)) {
                for (int rank : ranks(n, 42)) {
                    AlternateSigns x = Due.taken(n, goal);
                    x.keep();
                    x.take(n, rank);
                    int due = nextOf(heightsOf(table(n, rank)), heightsOf(table(n, goal)));
                    Due.same("next" + of(n, rank) + " to" + of(n, goal), x.next(), due);
                    Due.holds("a way as long as they are unlike", due == NONE == (rank == goal));
                }
            }
        }
        AlternateSigns x = new AlternateSigns();
        x.keep();
        x.take(3, 6);
        Due.same("of 12 and 21 the lowest i", x.next(), 12);
        x.take(3, 0);
        Due.same("of 11 and 22 the lowest i", x.next(), 11);
        AlternateSigns y = Due.laid("+000;00+0;0+-+;00+0;");
        y.keep();
        y.take(4, 0);
        Due.same("to the right of 11, below it", y.next(), 22);
        allTheWay();
    }

    private static void allTheWay() {
        for (int n = 2; n <= 6; n++) {
            AlternateSigns x = Due.taken(n, 0);
            x.keep();
            x.take(n, MANY[n - 1] - 1);
            int far = n * (n * n - 1) / 6;
            for (int left = far; left > 0; left--) {
                int step = x.next();
                Due.holds("next can be flipped", x.flip(step / 10, step % 10) >= 0);
                Due.same("less apart", x.apart(), left - 1);
            }
            isTable("there", x, n, 0);
        }
    }

    /** All of one colour first, looked for before any is flipped; then all of the other. */
    private static int gyrate(int[][] heights) {
        int flips = 0;
        for (int colour = 0; colour <= 1; colour++) {
            int[][] before = Arrays.stream(heights).map(int[]::clone).toArray(int[][]::new);
            for (int i = 1; i < heights.length - 1; i++) {
                for (int j = 1; j < heights.length - 1; j++) {
                    if ((i + j) % 2 == colour && canBeFlipped(before, i, j)) {
                        heights[i][j] = flippedTo(before, i, j);
                        flips++;
                    }
                }
            }
        }
        return flips;
    }

    private static void gyrated() {
        Document.says(TERMS, "GYRATED is THE TABLE: first all (i, j) with i and j together even that can be FLIPPED are,"
            + " then all with i and j together uneven that can be FLIPPED then are.");
        for (int n = 1; n <= 6; n++) {
            for (int rank : ranks(n, 500)) {
                int[][] heights = heightsOf(table(n, rank));
                AlternateSigns x = Due.taken(n, rank);
                Due.same("gyrate 1" + of(n, rank), x.gyrate(1), gyrate(heights));
                hasHeights("gyrate 1" + of(n, rank), x, heights);
                hasSigns("gyrate 1" + of(n, rank), x, heights);
            }
        }
        AlternateSigns x = new AlternateSigns();
        x.gyrate(1);
        Due.table("(1, 1) and (2, 2) first, then neither (1, 2) nor (2, 1)", x, "+00;0+0;00+;");
    }

    private static void orbits() {
        Document.says(TERMS, "ORBIT: by how many of this (1 or more) it is as it was.");
        for (int n = 1; n <= 6; n++) {
            int most = 0;
            for (int rank : ranks(n, 429)) {
                int[][] start = heightsOf(table(n, rank));
                int[][] heights = heightsOf(table(n, rank));
                int times = 0;
                do {
                    gyrate(heights);
                    times++;
                } while (!Arrays.deepEquals(start, heights));
                Due.same("orbit" + of(n, rank), Due.taken(n, rank).orbit(), times);
                most = Math.max(most, times);
            }
            Due.holds("1 only of N 1", n == 1 == (most == 1));
        }
        Due.same("the longest of N 6", Due.taken(6, 248).orbit(), 84);
    }
}
