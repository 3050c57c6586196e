/** Promises 14 to 20: flip, gyrate, orbit, apart, next, both, turn. */
public final class FlipsTest {
    private static final int BAD = -1, NO = -2, NONE = -4;

    public static void main(String[] args) {
        flip();
        flipWrong();
        gyrate();
        gyrateColours();
        orbit();
        apart();
        next();
        wayFromFirstToLast();
        both();
        bothWrong();
        turn();
        turnSymmetric();
        Due.end();
    }

    private static void flip() {
        AlternateSigns x = new AlternateSigns();
        Due.same("less", x.flip(1, 1), 0);
        Due.table("less", x, "+00;00+;0+0;");
        Due.same("more", x.flip(1, 1), 2);
        Due.table("more", x, "0+0;+-+;0+0;");
        Due.same("less", x.flip(2, 2), 0);
        Due.table("less", x, "0+0;+00;00+;");
        x.undo();
        Due.same("more", x.flip(1, 2), 3);
        Due.table("more", x, "00+;+00;0+0;");
        Due.same("more", x.flip(2, 1), 3);
        Due.table("the highest", x, "00+;0+0;+00;");
        Due.same("height", x.height(2, 1), 3);
        Due.same("rank", x.rank(), 6);
        Due.same("of two", Due.taken(2, 0).flip(1, 1), 2);
    }

    private static void flipWrong() {
        AlternateSigns x = Due.taken(3, 1);
        Due.same("it can not", x.flip(1, 2), NO);
        Due.same("it can not", x.flip(2, 1), NO);
        for (int number : new int[] {Integer.MIN_VALUE, -1, 0, 3, 4, Integer.MAX_VALUE}) {
            Due.same("flip " + number, x.flip(number, 1), BAD);
            Due.same("flip " + number, x.flip(2, number), BAD);
        }
        Due.table("nothing changes", x, "+00;00+;0+0;");
        Due.same("count 5", x.count(5), 1);
        Due.same("of one", Due.taken(1, 0).flip(1, 1), BAD);
    }

    private static void gyrate() {
        AlternateSigns x = Due.taken(2, 0);
        Due.same("once", x.gyrate(1), 1);
        Due.table("once", x, "0+;+0;");
        Due.same("once more", x.gyrate(1), 1);
        Due.table("once more", x, "+0;0+;");
        Due.same("a hundred times", x.gyrate(100), 100);
        Due.table("a hundred times", x, "+0;0+;");
        Due.same("99 times", x.gyrate(99), 99);
        Due.table("99 times", x, "0+;+0;");
        Due.same("count 5", x.count(5), 5);
        for (int n : new int[] {Integer.MIN_VALUE, -1, 0, 101, Integer.MAX_VALUE}) {
            Due.same("gyrate " + n, x.gyrate(n), BAD);
        }
        Due.table("nothing changes", x, "0+;+0;");
        Due.same("count 5", x.count(5), 5);
        x.undo();
        Due.table("undone at once", x, "+0;0+;");
        Due.same("of one", Due.taken(1, 0).gyrate(100), 0);
    }

    /** Of three: (1, 1) and (2, 2) are even, (1, 2) and (2, 1) uneven. */
    private static void gyrateColours() {
        AlternateSigns x = new AlternateSigns();
        Due.same("even ones first; then no uneven one can", x.gyrate(1), 2);
        Due.table("the lowest", x, "+00;0+0;00+;");
        Due.same("even ones, then uneven ones", x.gyrate(1), 4);
        Due.table("the highest", x, "00+;0+0;+00;");
        Due.same("no even one; then uneven ones", x.gyrate(1), 2);
        Due.table("as it was", x, "0+0;+-+;0+0;");
        Due.same("three at once", x.gyrate(3), 8);
        Due.table("as it was", x, "0+0;+-+;0+0;");
    }

    private static void orbit() {
        Due.same("of one", Due.taken(1, 0).orbit(), 1);
        Due.same("of two", Due.taken(2, 0).orbit(), 2);
        Due.same("of two", Due.taken(2, 1).orbit(), 2);
        Due.same("of three", new AlternateSigns().orbit(), 3);
        Due.same("the longest of six", Due.taken(6, 248).orbit(), 84);
        for (int n = 1; n <= 5; n++) {
            int many = new AlternateSigns().many(n, -1);
            for (int rank = 0; rank < many; rank++) {
                orbitByGyrations(Due.taken(n, rank), rank);
            }
        }
    }

    private static void orbitByGyrations(AlternateSigns x, int rank) {
        int orbit = x.orbit();
        Due.same("orbit does not change", x.rank(), rank);
        for (int times = 1; times <= orbit; times++) {
            x.gyrate(1);
            Due.holds("rank " + rank + " comes back first by " + orbit, (x.rank() == rank) == (times == orbit));
        }
    }

    private static void apart() {
        AlternateSigns x = new AlternateSigns();
        Due.same("none is kept", x.apart(), NO);
        x.keep();
        Due.same("itself", x.apart(), 0);
        x.take(3, 0);
        Due.same("two flips", x.apart(), 2);
        x.keep();
        x.take(3, 6);
        Due.same("lowest and highest", x.apart(), 4);
        x.take(2, 0);
        Due.same("not alike", x.apart(), NO);
        x.take(6, 0);
        x.keep();
        x.take(6, 7435);
        Due.same("lowest and highest of six", x.apart(), 35);
        Due.lay(x, "+;");
        Due.same("not alike", x.apart(), NO);
    }

    private static void next() {
        AlternateSigns x = new AlternateSigns();
        Due.same("none is kept", x.next(), NO);
        x.keep();
        Due.same("alike", x.next(), NONE);
        x.take(3, 0);
        Due.same("lowest i, then j", x.next(), 11);
        x.take(3, 6);
        Due.same("lowest i, then j", x.next(), 12);
        Due.same("it can be flipped", x.flip(1, 2), 1);
        Due.same("the other one", x.next(), 21);
        Due.same("it can be flipped", x.flip(2, 1), 1);
        Due.same("there", x.next(), NONE);
        Due.table("there", x, "0+0;+-+;0+0;");
        x.flip(2, 2);
        Due.same("not away from it", x.next(), 22);
        x.take(1, 0);
        Due.same("not alike", x.next(), NO);
        x.keep();
        Due.same("alike", x.next(), NONE);
    }

    /** As many flips as they are apart, each by next. */
    private static void wayFromFirstToLast() {
        AlternateSigns x = Due.taken(6, 7435);
        x.keep();
        x.take(6, 0);
        for (int left = 35; left > 0; left--) {
            Due.same("apart", x.apart(), left);
            int step = x.next();
            Due.holds("a height", x.flip(step / 10, step % 10) >= 0);
        }
        Due.same("apart", x.apart(), 0);
        Due.same("next", x.next(), NONE);
        Due.same("rank", x.rank(), 7435);
    }

    private static void both() {
        AlternateSigns x = Due.taken(3, 1);
        x.keep();
        x.take(3, 2);
        Due.same("lower", x.both(0), 1);
        Due.table("lower of two", x, "+00;0+0;00+;");
        x.undo();
        Due.same("upper", x.both(1), 1);
        Due.table("upper of two", x, "0+0;+-+;0+0;");
        Due.same("upper again", x.both(1), 0);
        Due.same("lower is the other", x.both(0), 1);
        Due.table("lower is the other", x, "+00;00+;0+0;");
        Due.same("count 5", x.count(5), 5);
        x.take(6, 7435);
        x.keep();
        x.take(6, 0);
        Due.same("lower", x.both(0), 0);
        Due.same("upper", x.both(1), 25);
        Due.same("rank", x.rank(), 7435);
        x.take(1, 0);
        x.keep();
        Due.same("of one", x.both(1), 0);
    }

    private static void bothWrong() {
        AlternateSigns x = new AlternateSigns();
        for (int which : new int[] {Integer.MIN_VALUE, -1, 2, Integer.MAX_VALUE}) {
            Due.same("bad is told first", x.both(which), BAD);
        }
        Due.same("none is kept", x.both(0), NO);
        Due.same("none is kept", x.both(1), NO);
        x.keep();
        Due.same("bad", x.both(2), BAD);
        Due.lay(x, "0+;+0;");
        Due.same("not alike", x.both(0), NO);
        Due.same("not alike", x.both(1), NO);
        Due.same("bad", x.both(-1), BAD);
        Due.same("nothing changes", x.count(5), 0);
        Due.table("nothing changes", x, "0+;+0;");
    }

    private static void turned(int k, String want, int unlike) {
        AlternateSigns x = Due.laid("+000;00+0;0+-+;00+0;");
        Due.same("turn " + k, x.turn(k), unlike);
        Due.table("turn " + k, x, want);
        Due.same("count 5", x.count(5), 1);
        x.undo();
        Due.table("undone", x, "+000;00+0;0+-+;00+0;");
    }

    private static void turn() {
        turned(1, "000+;0+00;+-+0;0+00;", 10);
        turned(2, "0+00;+-+0;0+00;000+;", 8);
        turned(3, "00+0;0+-+;00+0;+000;", 10);
        turned(4, "000+;0+00;+-+0;0+00;", 10);
        turned(5, "00+0;0+-+;00+0;+000;", 10);
        turned(6, "+000;00+0;0+-+;00+0;", 0);
        AlternateSigns x = Due.laid("0+0;00+;+00;");
        Due.same("to the right", x.turn(1), 4);
        Due.table("to the right", x, "+00;00+;0+0;");
        Due.lay(x, "0+00;00+0;000+;+000;");
        Due.same("to the right", x.turn(1), 8);
        Due.table("to the right", x, "+000;000+;00+0;0+00;");
        x.undo();
        Due.same("to the left", x.turn(3), 8);
        Due.table("to the left", x, "00+0;0+00;+000;000+;");
        x.undo();
        Due.same("half", x.turn(2), 8);
        Due.table("half", x, "000+;+000;0+00;00+0;");
        x.undo();
        Due.same("left to right", x.turn(4), 8);
        Due.table("left to right", x, "00+0;0+00;+000;000+;");
        x.undo();
        Due.same("above to below", x.turn(5), 8);
        Due.table("above to below", x, "+000;000+;00+0;0+00;");
        x.undo();
        Due.same("rows for columns", x.turn(6), 8);
        Due.table("rows for columns", x, "000+;+000;0+00;00+0;");
        for (int k : new int[] {Integer.MIN_VALUE, -1, 0, 7, Integer.MAX_VALUE}) {
            Due.same("turn " + k, x.turn(k), BAD);
        }
        Due.table("nothing changes", x, "000+;+000;0+00;00+0;");
        Due.same("count 5", x.count(5), 1);
    }

    private static void turnSymmetric() {
        AlternateSigns x = new AlternateSigns();
        for (int k = 1; k <= 6; k++) {
            Due.same("turn " + k, x.turn(k), 0);
            Due.same("a change all the same", x.count(5), k);
        }
        x.take(1, 0);
        Due.same("of one", x.turn(1), 0);
    }
}
