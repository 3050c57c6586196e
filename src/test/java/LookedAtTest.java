/** Promises 9 to 13: sign, corner, height, may, count. */
public final class LookedAtTest {
    private static final int BAD = -1;
    private static final int[] FAR = {Integer.MIN_VALUE, -1, 7, 100, Integer.MAX_VALUE};

    public static void main(String[] args) {
        sign();
        corner();
        height();
        may();
        countOfTheTable();
        countOfTheRest();
        Due.end();
    }

    private static void rows(String what, int[][] got, int[][] want) {
        for (int i = 0; i < want.length; i++) {
            for (int j = 0; j < want[i].length; j++) {
                Due.same(what + " " + i + " " + j, got[i][j], want[i][j]);
            }
        }
    }

    private static void sign() {
        AlternateSigns x = Due.laid("0+00;00+0;+-0+;0+00;");
        int[][] want = {{100, 101, 100, 100}, {100, 100, 101, 100}, {101, 99, 100, 101}, {100, 101, 100, 100}};
        for (int row = 0; row < 4; row++) {
            for (int column = 0; column < 4; column++) {
                Due.same("sign " + row + " " + column, x.sign(row, column), want[row][column]);
            }
        }
        Due.same("row by N", x.sign(4, 0), BAD);
        Due.same("column by N", x.sign(0, 4), BAD);
        for (int far : FAR) {
            Due.same("row " + far, x.sign(far, 1), BAD);
            Due.same("column " + far, x.sign(1, far), BAD);
        }
        x.take(1, 0);
        Due.same("the one", x.sign(0, 0), 101);
        Due.same("row by N", x.sign(1, 0), BAD);
        Due.same("column by N", x.sign(0, 1), BAD);
    }

    private static void corner() {
        AlternateSigns x = Due.laid("0+00;00+0;+-0+;0+00;");
        int[][] want = {{0, 0, 0, 0, 0}, {0, 0, 1, 1, 1}, {0, 0, 1, 2, 2}, {0, 1, 1, 2, 3}, {0, 1, 2, 3, 4}};
        int[][] got = new int[5][5];
        for (int i = 0; i <= 4; i++) {
            for (int j = 0; j <= 4; j++) {
                got[i][j] = x.corner(i, j);
            }
        }
        rows("corner", got, want);
        Due.same("by N", x.corner(5, 0), BAD);
        Due.same("by N", x.corner(0, 5), BAD);
        for (int far : FAR) {
            Due.same("corner " + far, x.corner(far, 1), BAD);
            Due.same("corner " + far, x.corner(1, far), BAD);
        }
        x.take(6, 7);
        Due.same("all of six", x.corner(6, 6), 6);
        Due.same("by N", x.corner(6, 7), BAD);
    }

    private static void height() {
        AlternateSigns x = Due.laid("0+00;00+0;+-0+;0+00;");
        int[][] want = {{0, 1, 2, 3, 4}, {1, 2, 1, 2, 3}, {2, 3, 2, 1, 2}, {3, 2, 3, 2, 1}, {4, 3, 2, 1, 0}};
        int[][] got = new int[5][5];
        for (int i = 0; i <= 4; i++) {
            for (int j = 0; j <= 4; j++) {
                got[i][j] = x.height(i, j);
            }
        }
        rows("height", got, want);
        Due.same("by N", x.height(5, 0), BAD);
        Due.same("by N", x.height(0, 5), BAD);
        for (int far : FAR) {
            Due.same("height " + far, x.height(far, 1), BAD);
            Due.same("height " + far, x.height(1, far), BAD);
        }
    }

    private static void may() {
        AlternateSigns x = Due.laid("0+00;00+0;+-0+;0+00;");
        int[][] want = {{0, 1, 0}, {2, 0, 1}, {1, 2, 0}};
        for (int i = 1; i <= 3; i++) {
            for (int j = 1; j <= 3; j++) {
                Due.same("may " + i + " " + j, x.may(i, j), want[i - 1][j - 1]);
            }
        }
        AlternateSigns y = new AlternateSigns();
        Due.same("may 1 1", y.may(1, 1), 2);
        Due.same("may 1 2", y.may(1, 2), 1);
        Due.same("may 2 1", y.may(2, 1), 1);
        Due.same("may 2 2", y.may(2, 2), 2);
        y.flip(1, 1);
        Due.same("may 1 1", y.may(1, 1), 1);
        Due.same("may 1 2", y.may(1, 2), 0);
        Due.same("may 2 1", y.may(2, 1), 0);
        Due.same("may 2 2", y.may(2, 2), 2);
        int[] wrong = {Integer.MIN_VALUE, -1, 0, 3, 4, Integer.MAX_VALUE};
        for (int number : wrong) {
            Due.same("may " + number, y.may(number, 1), BAD);
            Due.same("may " + number, y.may(1, number), BAD);
        }
        y.take(1, 0);
        Due.same("nothing inside", y.may(1, 1), BAD);
        Due.same("nothing inside", y.may(0, 0), BAD);
        y.take(2, 0);
        Due.same("the lowest of two", y.may(1, 1), 1);
        y.take(2, 1);
        Due.same("the highest of two", y.may(1, 1), 2);
    }

    private static void counts(AlternateSigns x, String when, int... want) {
        for (int what = 0; what < want.length; what++) {
            Due.same(when + ", count " + what, x.count(what), want[what]);
        }
    }

    private static void countOfTheTable() {
        AlternateSigns x = new AlternateSigns();
        counts(x, "at first", 3, 1, 4, 2, 24, 0, 0, 0, 0, 12, 0, 0);
        counts(Due.taken(1, 0), "of one", 1, 0, 0, 0, 2, 1, 0, 0, 1, 2, 0, 0);
        counts(Due.taken(2, 0), "the lowest of two", 2, 0, 1, 0, 8, 1, 0, 0, 1, 6, 0, 0);
        counts(Due.taken(2, 1), "the highest of two", 2, 0, 1, 1, 10, 1, 0, 0, 1, 6, 0, 0);
        counts(Due.laid("00+0;0+-+;+-+0;0+00;"), "of four", 4, 2, 7, 5, 54, 0, 20, 0, 0, 20, 0, 0);
        counts(Due.laid("0+00;000+;+000;00+0;"), "with a ring", 4, 0, 4, 3, 50, 0, 20, 0, 1, 20, 4, 1);
        AlternateSigns y = Due.laid("0+0000;0000+0;+-+000;000+-+;0+0000;0000+0;");
        Due.same("two -", y.count(1), 2);
        Due.same("with -", y.count(8), 0);
        Due.same("all drawn", y.count(9), 42);
        Due.same("on two rings", y.count(10), 12);
        Due.same("two rings", y.count(11), 2);
        // A table without - is an order of columns: inversions are its pairs in the wrong order.
        Due.same("backward", Due.taken(6, 7435).count(3), 15);
        Due.same("forward", Due.taken(6, 0).count(3), 0);
        for (int what : new int[] {Integer.MIN_VALUE, -1, 12, 13, Integer.MAX_VALUE}) {
            Due.same("count " + what, y.count(what), BAD);
        }
    }

    private static void countOfTheRest() {
        AlternateSigns x = new AlternateSigns();
        x.write('x');
        x.write('+');
        Due.same("letters", x.count(6), 2);
        x.flip(1, 1);
        x.flip(2, 2);
        Due.same("changes", x.count(5), 2);
        Due.same("no other", x.count(7), 0);
        x.keep();
        x.take(5, 1);
        Due.same("N of the other", x.count(7), 3);
        Due.same("changes", x.count(5), 3);
    }
}
