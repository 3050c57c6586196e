/** Sentences of promises 14 to 20: flip, gyrate, orbit, apart, next, both, turn. */
final class FlipBounds extends Bounds {
    private FlipBounds() {
    }

    static void all() {
        flip();
        flipBad();
        flipNo();
        gyrateFrom1To100();
        gyrateBad();
        orbit();
        apart();
        apartNoneIsKept();
        apartNIsNotAlike();
        next();
        nextNo();
        nextNone();
        lower();
        upper();
        bothCountsHeights();
        bothBad();
        bothNo();
        turnToTheRight();
        turnLeftToRight();
        turnAboveToBelow();
        turnRowsForColumns();
        turnCountsPlaces();
        turnBad();
    }

    private static AlternateSigns beside(int n, int other, int rank) {
        AlternateSigns x = Due.taken(n, other);
        x.keep();
        x.take(n, rank);
        return x;
    }

    private static void flip() {
        Document.says("Promise 14", "FLIPPED at (i, j): HEIGHT there then.");
        for (int n = 2; n <= 6; n++) {
            int[] ends = {1, n - 1};
            for (int i : ends) {
                for (int j : ends) {
                    flipFound(n, i, j);
                }
            }
        }
        Due.same("from 0 to 2", Due.taken(2, 0).flip(1, 1), 2);
        Due.same("from 2 to 0", Due.taken(2, 1).flip(1, 1), 0);
    }

    /** Both ways round there, in some table of N in which it can be. */
    private static void flipFound(int n, int i, int j) {
        boolean[] found = new boolean[2];
        for (int rank = 0; rank < MANY[n - 1] && !(found[0] && found[1]); rank++) {
            int[][] heights = HeightBounds.heightsOf(table(n, rank));
            if (HeightBounds.canBeFlipped(heights, i, j)) {
                int then = HeightBounds.flippedTo(heights, i, j);
                found[then > heights[i][j] ? 1 : 0] = true;
                AlternateSigns x = Due.taken(n, rank);
                Due.same("flip " + i + " " + j + of(n, rank), x.flip(i, j), then);
                Due.same("height then", x.height(i, j), then);
                Due.same("a change", x.count(5), 2);
                heights[i][j] = then;
                HeightBounds.hasSigns("flipped", x, heights);
            }
        }
        Due.holds("(" + i + ", " + j + ") of N " + n + " both ways", found[0] && found[1]);
    }

    private static void flipBad() {
        Document.says("Promise 14", "BAD (i, j not 1 to N - 1);");
        for (int n = 1; n <= 6; n++) {
            for (int far : beyond(1, n - 1)) {
                for (int near = 0; near <= n; near++) {
                    int other = near;
                    isRefusedOf(n, "flip " + far + " " + near, x -> x.flip(far, other), BAD);
                    isRefusedOf(n, "flip " + near + " " + far, x -> x.flip(other, far), BAD);
                }
            }
        }
        isRefusedOf(1, "flip 1 1", x -> x.flip(1, 1), BAD);
    }

    private static void flipNo() {
        Document.says("Promise 14", "NO: it can not be.");
        for (int n = 3; n <= 6; n++) {
            for (Standing standing : Standing.ofSize(n)) {
                int[][] heights = HeightBounds.heightsOf(table(n, standing.made().rank()));
                for (int at = 0; at < (n - 1) * (n - 1); at++) {
                    int i = at / (n - 1) + 1;
                    int j = at % (n - 1) + 1;
                    if (!HeightBounds.canBeFlipped(heights, i, j)) {
                        standing.keepsStill("flip " + i + " " + j, x -> x.flip(i, j), NO);
                    }
                }
            }
            for (int rank : ranks(n, 100)) {
                flipNoOf(n, rank);
            }
        }
    }

    private static void flipNoOf(int n, int rank) {
        int[][] heights = HeightBounds.heightsOf(table(n, rank));
        AlternateSigns x = Due.taken(n, rank);
        for (int at = 0; at < (n - 1) * (n - 1); at++) {
            int i = at / (n - 1) + 1;
            int j = at % (n - 1) + 1;
            if (!HeightBounds.canBeFlipped(heights, i, j)) {
                Due.same("flip " + i + " " + j + of(n, rank), x.flip(i, j), NO);
                Due.same("no change", x.count(5), 1);
            }
        }
        isTable("nothing changes", x, n, rank);
    }

    private static void gyrateFrom1To100() {
        Document.says("Promise 15", "GYRATED n times (1 to 100): how many (i, j) were FLIPPED in all, each as often as it"
            + " was.");
        for (int n = 1; n <= 6; n++) {
            for (int rank : ranks(n, 20)) {
                for (int times : new int[] {1, 2, 3, 99, 100}) {
                    AlternateSigns x = Due.taken(n, rank);
                    AlternateSigns twin = Due.taken(n, rank);
                    int flips = 0;
                    for (int time = 0; time < times; time++) {
                        flips += twin.gyrate(1);
                    }
                    Due.same("gyrate " + times + of(n, rank), x.gyrate(times), flips);
                    Due.table("gyrate " + times + of(n, rank), x, Due.letters(twin));
                    Due.same("one change", x.count(5), 2);
                }
            }
        }
        Due.same("as often as it was", Due.taken(2, 0).gyrate(100), 100);
        Due.same("none of N 1", Due.taken(1, 0).gyrate(100), 0);
        Due.same("2, 4, 2 of N 3", new AlternateSigns().gyrate(3), 8);
    }

    private static void gyrateBad() {
        Document.says("Promise 15", "BAD.");
        for (int times : beyond(1, 100)) {
            isRefused("gyrate " + times, x -> x.gyrate(times), BAD);
        }
    }

    private static void orbit() {
        Document.says("Promise 16", "ORBIT.");
        for (int n = 1; n <= 6; n++) {
            for (int rank : ranks(n, 100)) {
                AlternateSigns x = Due.taken(n, rank);
                int orbit = x.orbit();
                Due.holds("1 or more", orbit >= 1);
                for (int time = 1; time <= orbit; time++) {
                    x.gyrate(1);
                    Due.holds("back first behind " + orbit + of(n, rank), x.rank() == rank == (time == orbit));
                }
                Due.same("the same on all the way", x.orbit(), orbit);
            }
        }
    }

    private static void apart() {
        Document.says("Promise 17", "How far APART THE TABLE and THE OTHER are.");
        int[] far = {0, 1, 4, 10, 20, 35};
        for (int n = 1; n <= 6; n++) {
            int last = MANY[n - 1] - 1;
            Due.same("the first and the first", beside(n, 0, 0).apart(), 0);
            Due.same("the first and the last", beside(n, last, 0).apart(), far[n - 1]);
            Due.same("the last and the first", beside(n, 0, last).apart(), far[n - 1]);
            Due.same("the last and the last", beside(n, last, last).apart(), 0);
            for (int rank : ranks(n, 50)) {
                int up = beside(n, 0, rank).apart();
                int down = beside(n, last, rank).apart();
                Due.same("up and down" + of(n, rank), up + down, far[n - 1]);
                Due.same("the other way round" + of(n, rank), beside(n, rank, 0).apart(), up);
            }
        }
        AlternateSigns x = beside(3, 0, 6);
        Due.same("by each flip one less", x.flip(1, 2) >= 0 ? x.apart() : -9, 3);
    }

    private static void apartNoneIsKept() {
        Document.says("Promise 17", "NO: none is KEPT,");
        for (int n = 1; n <= 6; n++) {
            for (Standing standing : Standing.ofSize(n)) {
                if (standing.other == 0) {
                    standing.keepsStill("apart", x -> x.apart(), NO);
                }
            }
        }
        Due.same("a new object", new AlternateSigns().apart(), NO);
    }

    private static void apartNIsNotAlike() {
        Document.says("Promise 17", "or N is not alike.");
        for (int n = 1; n <= 6; n++) {
            for (int m = 1; m <= 6; m++) {
                AlternateSigns x = Due.taken(n, 0);
                x.keep();
                x.take(m, 0);
                Due.same("apart of N " + m + " and " + n, x.apart(), n == m ? 0 : NO);
                x.undo();
                Due.same("apart of N " + n + " again", x.apart(), 0);
                Due.lay(x, letters(m, 0));
                Due.same("apart of N " + m + " and " + n, x.apart(), n == m ? 0 : NO);
            }
            for (Standing standing : Standing.ofSize(n)) {
                if (standing.other != n) {
                    standing.keepsStill("apart", x -> x.apart(), NO);
                }
            }
        }
    }

    private static void next() {
        Document.says("Promise 18", "NEXT on the way to THE OTHER: 10 i and j.");
        for (int n = 2; n <= 6; n++) {
            int last = MANY[n - 1] - 1;
            Due.same("from the last to the first of N " + n, beside(n, 0, last).next(), 10 + n - 1);
            Due.same("from the first to the last of N " + n, beside(n, last, 0).next(), 11);
            for (int i = 1; i < n; i++) {
                for (int j = 1; j < n; j++) {
                    nextIs(n, i, j);
                }
            }
        }
    }

    /** Where one flip is all that is between them, next is that flip. */
    private static void nextIs(int n, int i, int j) {
        int found = 0;
        for (int rank = 0; rank < MANY[n - 1] && found < 4; rank++) {
            AlternateSigns x = Due.taken(n, rank);
            x.keep();
            if (x.flip(i, j) >= 0) {
                found++;
                Due.same("next behind flip " + i + " " + j + of(n, rank), x.next(), 10 * i + j);
                Due.same("asked again", x.next(), 10 * i + j);
            }
        }
        Due.holds("a flip of (" + i + ", " + j + ") of N " + n, found > 0);
    }

    private static void nextNo() {
        Document.says("Promise 18", "NO likewise;");
        for (int n = 1; n <= 6; n++) {
            for (Standing standing : Standing.ofSize(n)) {
                if (standing.other != n) {
                    standing.keepsStill("next", x -> x.next(), NO);
                }
            }
            for (int m = 1; m <= 6; m++) {
                AlternateSigns x = Due.taken(n, 0);
                x.keep();
                x.take(m, 0);
                Due.same("next of N " + m + " to " + n, x.next(), n == m ? NONE : NO);
            }
        }
        Due.same("a new object", new AlternateSigns().next(), NO);
    }

    private static void nextNone() {
        Document.says("Promise 18", "NONE: they are alike.");
        for (int n = 1; n <= 6; n++) {
            for (int rank : ranks(n, 100)) {
                Due.same("next" + of(n, rank) + " to itself", beside(n, rank, rank).next(), NONE);
                int unlike = rank == 0 ? MANY[n - 1] - 1 : 0;
                Due.holds("next" + of(n, rank) + " to another", n == 1 || beside(n, unlike, rank).next() >= 11);
            }
        }
    }

    private static int[][] bothOf(int n, int rank, int other, boolean isUpper) {
        int[][] own = HeightBounds.heightsOf(table(n, rank));
        int[][] others = HeightBounds.heightsOf(table(n, other));
        for (int i = 0; i <= n; i++) {
            for (int j = 0; j <= n; j++) {
                own[i][j] = isUpper ? Math.max(own[i][j], others[i][j]) : Math.min(own[i][j], others[i][j]);
            }
        }
        return own;
    }

    private static void bothIsDue(int which) {
        for (int n = 1; n <= 6; n++) {
            int last = MANY[n - 1] - 1;
            for (int other : ranks(n, 20)) {
                for (int rank : ranks(n, 20)) {
                    int[][] due = bothOf(n, rank, other, which == 1);
                    AlternateSigns x = beside(n, other, rank);
                    x.both(which);
                    HeightBounds.hasHeights("both " + which + of(n, rank) + " and" + of(n, other), x, due);
                    HeightBounds.hasSigns("both " + which + of(n, rank) + " and" + of(n, other), x, due);
                    Due.same("a change", x.count(5), 3);
                    x.undo();
                    isTable("undone", x, n, rank);
                }
            }
            AlternateSigns x = beside(n, last, 0);
            x.both(which);
            isTable("the first and the last", x, n, which == 1 ? last : 0);
        }
    }

    private static void lower() {
        Document.says("Promise 19", "LOWER (which = 0): THE TABLE becomes that whose HEIGHTS are the lesser of its own and"
            + " those of THE OTHER at each (i, j);");
        bothIsDue(0);
    }

    private static void upper() {
        Document.says("Promise 19", "UPPER (1): the greater:");
        bothIsDue(1);
    }

    private static void bothCountsHeights() {
        Document.says("Promise 19", "how many HEIGHTS are others then.");
        for (int n = 1; n <= 6; n++) {
            int last = MANY[n - 1] - 1;
            for (int other : ranks(n, 25)) {
                for (int rank : ranks(n, 25)) {
                    for (int which = 0; which <= 1; which++) {
                        int[][] own = HeightBounds.heightsOf(table(n, rank));
                        int[][] then = bothOf(n, rank, other, which == 1);
                        int due = 0;
                        for (int at = 0; at < (n + 1) * (n + 1); at++) {
                            due += own[at / (n + 1)][at % (n + 1)] != then[at / (n + 1)][at % (n + 1)] ? 1 : 0;
                        }
                        Due.same("both " + which + of(n, rank) + " and" + of(n, other), beside(n, other, rank).both(which), due);
                    }
                }
            }
            Due.same("all inside", beside(n, last, 0).both(1), (n - 1) * (n - 1));
            Due.same("none", beside(n, last, 0).both(0), 0);
            Due.same("none", beside(n, 0, last).both(1), 0);
            Due.same("all inside", beside(n, 0, last).both(0), (n - 1) * (n - 1));
        }
    }

    private static void bothBad() {
        Document.says("Promise 19", "BAD;");
        for (int which : beyond(0, 1)) {
            isRefused("both " + which, x -> x.both(which), BAD);
        }
    }

    private static void bothNo() {
        Document.says("Promise 19", "NO likewise.");
        for (int n = 1; n <= 6; n++) {
            for (Standing standing : Standing.ofSize(n)) {
                if (standing.other != n) {
                    standing.keepsStill("both 0", x -> x.both(0), NO);
                    standing.keepsStill("both 1", x -> x.both(1), NO);
                }
            }
            for (int m = 1; m <= 6; m++) {
                AlternateSigns x = Due.taken(n, 0);
                x.keep();
                x.take(m, 0);
                Due.same("both of N " + m + " and " + n, x.both(0), n == m ? 0 : NO);
                Due.same("both of N " + m + " and " + n, x.both(1), n == m ? 0 : NO);
            }
        }
    }

    /** Where the sign of a place comes to: {row, column}. */
    private static int[] turnedTo(int k, int n, int row, int column) {
        int last = n - 1;
        int[] to = {row, column};
        for (int quarter = 0; k <= 3 && quarter < k; quarter++) {
            to = new int[] {to[1], last - to[0]};
        }
        return k == 4 ? new int[] {row, last - column} : k == 5 ? new int[] {last - row, column}
            : k == 6 ? new int[] {column, row} : to;
    }

    private static int[][] turned(int k, int[][] signs) {
        int n = signs.length;
        int[][] then = new int[n][n];
        for (int at = 0; at < n * n; at++) {
            int[] to = turnedTo(k, n, at / n, at % n);
            then[to[0]][to[1]] = signs[at / n][at % n];
        }
        return then;
    }

    private static void turnIsDue(int k) {
        for (int n = 1; n <= 6; n++) {
            for (int rank : ranks(n, 100)) {
                AlternateSigns x = Due.taken(n, rank);
                Due.holds("turn " + k + of(n, rank), x.turn(k) >= 0);
                Due.table("turn " + k + of(n, rank), x, Oracle.letters(turned(k, table(n, rank))));
                Due.same("a change", x.count(5), 2);
                x.undo();
                isTable("undone", x, n, rank);
            }
        }
    }

    private static void turnToTheRight() {
        Document.says("Promise 20", "Turned by quarters to the right (k 1 to 3),");
        for (int k = 1; k <= 3; k++) {
            turnIsDue(k);
        }
        String letters = "0+00;00+0;000+;+000;";
        turns(1, letters, "+000;000+;00+0;0+00;");
        turns(2, letters, "000+;+000;0+00;00+0;");
        turns(3, letters, "00+0;0+00;+000;000+;");
    }

    private static void turns(int k, String letters, String then) {
        AlternateSigns x = Due.laid(letters);
        x.turn(k);
        Due.table("turn " + k, x, then);
    }

    private static void turnLeftToRight() {
        Document.says("Promise 20", "mirrored left to right (4),");
        turnIsDue(4);
        turns(4, "0+00;00+0;000+;+000;", "00+0;0+00;+000;000+;");
    }

    private static void turnAboveToBelow() {
        Document.says("Promise 20", "above to below (5),");
        turnIsDue(5);
        turns(5, "0+00;00+0;000+;+000;", "+000;000+;00+0;0+00;");
    }

    private static void turnRowsForColumns() {
        Document.says("Promise 20", "rows for columns (6):");
        turnIsDue(6);
        turns(6, "0+00;00+0;000+;+000;", "000+;+000;0+00;00+0;");
    }

    private static void turnCountsPlaces() {
        Document.says("Promise 20", "how many places have another SIGN then.");
        for (int n = 1; n <= 6; n++) {
            for (int rank : ranks(n, 100)) {
                for (int k = 1; k <= 6; k++) {
                    int[][] then = turned(k, table(n, rank));
                    int due = 0;
                    for (int at = 0; at < n * n; at++) {
                        due += then[at / n][at % n] != table(n, rank)[at / n][at % n] ? 1 : 0;
                    }
                    Due.same("turn " + k + of(n, rank), Due.taken(n, rank).turn(k), due);
                }
            }
        }
        Due.same("none of N 1", Due.taken(1, 0).turn(3), 0);
        Due.same("all of N 2", Due.taken(2, 0).turn(1), 4);
        Due.same("none of 0+0;+-+;0+0;", new AlternateSigns().turn(1), 0);
    }

    private static void turnBad() {
        Document.says("Promise 20", "BAD.");
        for (int k : beyond(1, 6)) {
            isRefused("turn " + k, x -> x.turn(k), BAD);
        }
    }
}
