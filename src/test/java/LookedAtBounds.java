/** Sentences of promises 9 to 13: sign, corner, height, may, count. */
final class LookedAtBounds extends Bounds {
    private LookedAtBounds() {
    }

    static void all() {
        sign();
        signBad();
        corner();
        cornerBad();
        height();
        heightBad();
        may();
        mayMore();
        mayLess();
        mayNot();
        mayBad();
        counts();
        countOfLessOnes();
        countOfFlippable();
        countOfInversions();
        countOfHeights();
        countOfChanges();
        countOfLetters();
        countOfTheOther();
        countWithoutLessOnes();
        countOfDrawnEdges();
        countOnRings();
        countOfRings();
        countBad();
    }

    /** A call with two numbers. */
    private interface Pair {
        int on(AlternateSigns x, int one, int two);
    }

    /** That it is refused beyond a range in each number, whatever the other one is. */
    private static void pairsBeyond(String name, int n, int least, int most, Pair call) {
        for (int far : beyond(least, most)) {
            for (int near = least - 1; near <= most + 1; near++) {
                int other = near;
                isRefusedOf(n, name + " " + far + " " + near, x -> call.on(x, far, other), BAD);
                isRefusedOf(n, name + " " + near + " " + far, x -> call.on(x, other, far), BAD);
            }
        }
    }

    private static void sign() {
        Document.says("Promise 9", "The SIGN of a place, and ZERO (99, 100, 101).");
        for (int n = 1; n <= 6; n++) {
            for (int rank : ranks(n, 1000)) {
                AlternateSigns x = Due.taken(n, rank);
                for (int at = 0; at < n * n; at++) {
                    int due = table(n, rank)[at / n][at % n] + AlternateSigns.ZERO;
                    Due.same("sign " + at / n + " " + at % n + of(n, rank), x.sign(at / n, at % n), due);
                }
            }
        }
        AlternateSigns x = new AlternateSigns();
        Due.same("-1", x.sign(1, 1), 99);
        Due.same("0", x.sign(0, 0), 100);
        Due.same("1", x.sign(0, 1), 101);
        Due.same("0", x.sign(2, 2), 100);
        Due.same("ZERO", AlternateSigns.ZERO, 100);
    }

    private static void signBad() {
        Document.says("Promise 9", "BAD.");
        for (int n = 1; n <= 6; n++) {
            pairsBeyond("sign", n, 0, n - 1, AlternateSigns::sign);
        }
    }

    private static void corner() {
        Document.says("Promise 10", "CORNER.");
        for (int n = 1; n <= 6; n++) {
            for (Standing standing : Standing.ofSize(n)) {
                AlternateSigns x = standing.made();
                int[][] heights = HeightBounds.heightsOf(table(n, x.rank()));
                for (int i = 0; i <= n; i++) {
                    for (int j = 0; j <= n; j++) {
                        Due.same("corner " + i + " " + j, x.corner(i, j), (i + j - heights[i][j]) / 2);
                    }
                }
            }
        }
    }

    private static void cornerBad() {
        Document.says("Promise 10", "BAD.");
        for (int n = 1; n <= 6; n++) {
            pairsBeyond("corner", n, 0, n, AlternateSigns::corner);
        }
    }

    private static void height() {
        Document.says("Promise 11", "HEIGHT.");
        for (int n = 1; n <= 6; n++) {
            for (Standing standing : Standing.ofSize(n)) {
                AlternateSigns x = standing.made();
                HeightBounds.hasHeights(standing.name, x, HeightBounds.heightsOf(table(n, x.rank())));
            }
        }
    }

    private static void heightBad() {
        Document.says("Promise 11", "BAD.");
        for (int n = 1; n <= 6; n++) {
            pairsBeyond("height", n, 0, n, AlternateSigns::height);
        }
    }

    /** That may answers so just where a flip by this would be: 1 more, -1 less, 0 none. */
    private static void mayIsDue(int kind, int due) {
        for (int n = 2; n <= 6; n++) {
            int found = 0;
            for (int rank : ranks(n, 500)) {
                int[][] heights = HeightBounds.heightsOf(table(n, rank));
                AlternateSigns x = Due.taken(n, rank);
                for (int i = 1; i < n; i++) {
                    for (int j = 1; j < n; j++) {
                        boolean can = HeightBounds.canBeFlipped(heights, i, j);
                        int by = can ? HeightBounds.flippedTo(heights, i, j) - heights[i][j] : 0;
                        found += Integer.signum(by) == kind ? 1 : 0;
                        Due.holds("may " + i + " " + j + of(n, rank), x.may(i, j) == due == (Integer.signum(by) == kind));
                    }
                }
            }
            Due.holds("there are some of N " + n, found > 0 == (n > 2 || kind != 0));
        }
    }

    private static void may() {
        Document.says("Promise 12", "Whether (i, j) can be FLIPPED:");
        for (int n = 2; n <= 6; n++) {
            for (int rank : ranks(n, 100)) {
                for (int at = 0; at < (n - 1) * (n - 1); at++) {
                    AlternateSigns x = Due.taken(n, rank);
                    int i = at / (n - 1) + 1;
                    int j = at % (n - 1) + 1;
                    boolean can = x.may(i, j) > 0;
                    Due.holds("flip as may says " + i + " " + j + of(n, rank), x.flip(i, j) == NO != can);
                }
            }
        }
    }

    private static void mayMore() {
        Document.says("Promise 12", "1: its HEIGHT would be more,");
        mayIsDue(1, 1);
        Due.same("the first of N 2", Due.taken(2, 0).may(1, 1), 1);
    }

    private static void mayLess() {
        Document.says("Promise 12", "2: less,");
        mayIsDue(-1, 2);
        Due.same("the last of N 2", Due.taken(2, 1).may(1, 1), 2);
    }

    private static void mayNot() {
        Document.says("Promise 12", "0: it can not.");
        mayIsDue(0, 0);
        Due.same("may 1 2 of +00;00+;0+0;", Due.taken(3, 1).may(1, 2), 0);
    }

    private static void mayBad() {
        Document.says("Promise 12", "BAD (i, j not 1 to N - 1).");
        for (int n = 1; n <= 6; n++) {
            pairsBeyond("may", n, 1, n - 1, AlternateSigns::may);
            AlternateSigns x = Due.taken(n, 0);
            if (n > 1) {
                Due.holds("1 and N - 1 are told", x.may(1, 1) >= 0 && x.may(n - 1, n - 1) >= 0);
                Due.holds("1 and N - 1 are told", x.may(1, n - 1) >= 0 && x.may(n - 1, 1) >= 0);
            }
        }
        isRefusedOf(1, "may 1 1", x -> x.may(1, 1), BAD);
        isRefusedOf(1, "may 0 0", x -> x.may(0, 0), BAD);
    }

    private static void counts() {
        Document.says("Promise 13", "How many: 0 N,");
        for (int n = 1; n <= 6; n++) {
            for (Standing standing : Standing.ofSize(n)) {
                Due.same("count 0, " + standing.name, standing.made().count(0), n);
            }
        }
    }

    private static int lessOnes(int[][] signs) {
        int found = 0;
        for (int at = 0; at < signs.length * signs.length; at++) {
            found += signs[at / signs.length][at % signs.length] == -1 ? 1 : 0;
        }
        return found;
    }

    private static void countOfLessOnes() {
        Document.says("Promise 13", "1 SIGNS that are -1,");
        int[] mostOf = {0, 0, 1, 2, 4, 6};
        for (int n = 1; n <= 6; n++) {
            int most = 0;
            for (int rank = 0; rank < MANY[n - 1]; rank++) {
                int found = Due.taken(n, rank).count(1);
                Due.same("count 1" + of(n, rank), found, lessOnes(table(n, rank)));
                most = Math.max(most, found);
            }
            Due.same("the most of N " + n, most, mostOf[n - 1]);
        }
    }

    private static void countOfFlippable() {
        Document.says("Promise 13", "2 (i, j) that can be FLIPPED,");
        for (int n = 1; n <= 6; n++) {
            for (int rank : ranks(n, 1000)) {
                int[][] heights = HeightBounds.heightsOf(table(n, rank));
                int due = 0;
                for (int at = 0; at < (n - 1) * (n - 1); at++) {
                    due += HeightBounds.canBeFlipped(heights, at / (n - 1) + 1, at % (n - 1) + 1) ? 1 : 0;
                }
                Due.same("count 2" + of(n, rank), Due.taken(n, rank).count(2), due);
            }
        }
        Due.same("none of N 1", Due.taken(1, 0).count(2), 0);
        Due.same("all of N 3", new AlternateSigns().count(2), 4);
    }

    private static void countOfInversions() {
        Document.says("Promise 13", "3 INVERSIONS: the sum, over all pairs of places of which the one has the less row"
            + " number and the greater column number, of both SIGNS times each other,");
        for (int n = 1; n <= 6; n++) {
            for (int rank : ranks(n, 1000)) {
                int[][] signs = table(n, rank);
                int due = 0;
                for (int one = 0; one < n * n; one++) {
                    for (int other = 0; other < n * n; other++) {
                        boolean isPair = one / n < other / n && one % n > other % n;
                        due += isPair ? signs[one / n][one % n] * signs[other / n][other % n] : 0;
                    }
                }
                Due.same("count 3" + of(n, rank), Due.taken(n, rank).count(3), due);
            }
            Due.same("the first of N " + n, Due.taken(n, 0).count(3), 0);
            Due.same("the last of N " + n, Due.taken(n, MANY[n - 1] - 1).count(3), n * (n - 1) / 2);
        }
    }

    private static void countOfHeights() {
        Document.says("Promise 13", "4 HEIGHTS of all (i, j) together,");
        for (int n = 1; n <= 6; n++) {
            for (int rank : ranks(n, 1000)) {
                int due = 0;
                for (int[] row : HeightBounds.heightsOf(table(n, rank))) {
                    for (int height : row) {
                        due += height;
                    }
                }
                Due.same("count 4" + of(n, rank), Due.taken(n, rank).count(4), due);
            }
        }
        Due.same("those at the rim, too: N 1", Due.taken(1, 0).count(4), 2);
        Due.same("those at the rim, too: N 2", Due.taken(2, 0).count(4), 8);
    }

    private static void countOfChanges() {
        Document.says("Promise 13", "5 changes that can be UNDONE,");
        for (int n = 1; n <= 6; n++) {
            for (Standing standing : Standing.ofSize(n)) {
                Due.same("count 5, " + standing.name, standing.made().count(5), standing.changes);
            }
        }
        AlternateSigns x = new AlternateSigns();
        for (int time = 1; time <= 9; time++) {
            x.flip(1, 1);
            Due.same("count 5", x.count(5), Math.min(6, time));
        }
        for (int left = 5; left >= 0; left--) {
            x.undo();
            Due.same("count 5", x.count(5), left);
        }
    }

    private static void countOfLetters() {
        Document.says("Promise 13", "6 letters of THE TEXT,");
        AlternateSigns x = new AlternateSigns();
        for (int length = 0; length <= 201; length++) {
            Due.same("count 6", x.count(6), Math.min(length, 200));
            x.write(32 + length % 95);
        }
        x.wipe();
        Due.same("count 6", x.count(6), 0);
        for (int n = 1; n <= 6; n++) {
            for (Standing standing : Standing.ofSize(n)) {
                Due.same("count 6, " + standing.name, standing.made().count(6), standing.letters);
            }
        }
    }

    private static void countOfTheOther() {
        Document.says("Promise 13", "7 N of THE OTHER (0: none),");
        for (int n = 1; n <= 6; n++) {
            for (Standing standing : Standing.ofSize(n)) {
                AlternateSigns x = standing.made();
                Due.same("count 7, " + standing.name, x.count(7), standing.other);
                x.keep();
                x.take(n % 6 + 1, 0);
                Due.same("count 7", x.count(7), n);
            }
        }
        Due.same("none", new AlternateSigns().count(7), 0);
    }

    private static void countWithoutLessOnes() {
        Document.says("Promise 13", "8 whether no SIGN is -1 (1, 0),");
        int[] orders = {1, 2, 6, 24, 120, 720};
        for (int n = 1; n <= 6; n++) {
            int found = 0;
            for (int rank = 0; rank < MANY[n - 1]; rank++) {
                int answer = Due.taken(n, rank).count(8);
                Due.same("count 8" + of(n, rank), answer, lessOnes(table(n, rank)) == 0 ? 1 : 0);
                found += answer;
            }
            Due.same("all orders of N columns", found, orders[n - 1]);
        }
    }

    private static void countOfDrawnEdges() {
        Document.says("Promise 13", "9 DRAWN EDGES (those of ENDS, too),");
        for (int n = 1; n <= 6; n++) {
            for (int rank : ranks(n, 500)) {
                AlternateSigns x = Due.taken(n, rank);
                int due = 0;
                for (int number = 1; number <= n; number++) {
                    for (int places = 0; places <= n; places++) {
                        due += x.across(number, places) + x.down(places, number);
                    }
                }
                Due.same("count 9" + of(n, rank), x.count(9), due);
                Due.same("two of each place, each of two but at the ends", x.count(9), n * n + n);
            }
        }
    }

    private static void countOnRings() {
        Document.says("Promise 13", "10 of them on RINGS,");
        for (int n = 1; n <= 6; n++) {
            for (int rank = 0; rank < MANY[n - 1]; rank++) {
                Due.same("count 10" + of(n, rank), Due.taken(n, rank).count(10), Oracle.ringEdges(table(n, rank)));
            }
        }
        Due.same("one ring of four", Due.laid("0+00;000+;+000;00+0;").count(10), 4);
        Due.same("two rings", Due.laid("0+0000;0000+0;+-+000;000+-+;0+0000;0000+0;").count(10), 12);
        Due.same("none of N 3", new AlternateSigns().count(10), 0);
    }

    private static void countOfRings() {
        Document.says("Promise 13", "11 RINGS.");
        int[] mostOf = {0, 0, 0, 1, 1, 2};
        for (int n = 1; n <= 6; n++) {
            int most = 0;
            for (int rank = 0; rank < MANY[n - 1]; rank++) {
                int found = Due.taken(n, rank).count(11);
                Due.same("count 11" + of(n, rank), found, Oracle.rings(table(n, rank)));
                most = Math.max(most, found);
            }
            Due.same("the most of N " + n, most, mostOf[n - 1]);
        }
        Due.same("one ring of four", Due.laid("0+00;000+;+000;00+0;").count(11), 1);
        Due.same("two rings", Due.laid("0+0000;0000+0;+-+000;000+-+;0+0000;0000+0;").count(11), 2);
        Due.same("none of N 3", new AlternateSigns().count(11), 0);
    }

    private static void countBad() {
        Document.says("Promise 13", "BAD.");
        for (int what : beyond(0, 11)) {
            isRefused("count " + what, x -> x.count(what), BAD);
        }
        AlternateSigns x = new AlternateSigns();
        for (int what = 0; what <= 11; what++) {
            Due.holds("count " + what + " is told", x.count(what) >= 0);
        }
    }
}
