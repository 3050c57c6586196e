/** Promises 1 to 8: a new object, write, wipe, fault, lay, take, undo, keep. */
public final class ToldTest {
    private static final int BAD = -1, NO = -2, FULL = -3, NONE = -4;

    public static void main(String[] args) {
        newObject();
        write();
        wipe();
        fault();
        faultOfLongerTables();
        lay();
        take();
        undo();
        whatCanBeUndone();
        whatIsNoChange();
        keep();
        Due.end();
    }

    private static void newObject() {
        AlternateSigns x = new AlternateSigns();
        Due.table("a new object", x, "0+0;+-+;0+0;");
        Due.same("count 0", x.count(0), 3);
        Due.same("no letters", x.count(6), 0);
        Due.same("no fault but the missing rows", x.fault(), 0);
        Due.same("no other", x.count(7), 0);
        Due.same("nothing to undo", x.count(5), 0);
        Due.same("undo", x.undo(), NO);
        Due.same("wipe", x.wipe(), 0);
        Due.same("another object is not touched", new AlternateSigns().take(2, 1), 2);
        Due.table("still", x, "0+0;+-+;0+0;");
    }

    private static void write() {
        AlternateSigns x = new AlternateSigns();
        Due.same("below", x.write(31), BAD);
        Due.same("above", x.write(127), BAD);
        Due.same("far below", x.write(Integer.MIN_VALUE), BAD);
        Due.same("far above", x.write(Integer.MAX_VALUE), BAD);
        Due.same("as a letter, modulo", x.write(65536 + '+'), BAD);
        Due.same("count 6", x.count(6), 0);
        Due.same("lowest", x.write(32), 1);
        Due.same("highest", x.write(126), 2);
        for (int length = 3; length <= 200; length++) {
            Due.same("write", x.write('0'), length);
        }
        Due.same("full", x.write('0'), FULL);
        Due.same("bad is told first", x.write(127), BAD);
        Due.same("count 6", x.count(6), 200);
        Due.same("wipe", x.wipe(), 200);
        Due.same("write again", x.write('0'), 1);
    }

    private static void wipe() {
        AlternateSigns x = Due.laid("0+;+0;");
        Due.same("wipe", x.wipe(), 6);
        Due.same("wipe again", x.wipe(), 0);
        Due.same("count 6", x.count(6), 0);
        Due.table("the table stays", x, "0+;+0;");
        Due.same("fault", x.fault(), 0);
    }

    private static void faultOf(String letters, int want) {
        AlternateSigns x = new AlternateSigns();
        Due.write(x, letters);
        Due.same("fault of " + letters, x.fault(), want);
        Due.same("again of " + letters, x.fault(), want);
        Due.same("lay of " + letters, x.lay(), want == NONE ? letters.indexOf(';') : NO);
        Due.table("behind lay of " + letters, x, want == NONE ? letters : "0+0;+-+;0+0;");
    }

    private static void fault() {
        faultOf("", 0);
        faultOf("+;", NONE);
        faultOf("+", 1);
        faultOf("0", 1);
        faultOf("0;", 1);
        faultOf(";", 0);
        faultOf("-", 0);
        faultOf("x", 0);
        faultOf(" +;", 0);
        faultOf("+ ;", 1);
        faultOf("++", 1);
        faultOf("+-", 1);
        faultOf("+0-", 2);
        faultOf("+;+", 2);
        faultOf("+;;", 2);
        faultOf("+;x", 2);
        faultOf("+;x;", 2);
        faultOf("+0;0+;", NONE);
        faultOf("0+;+0;", NONE);
        faultOf("0+;", 3);
        faultOf("0+;+0", 5);
        faultOf("+0;;", 3);
        faultOf("+0;0;", 4);
        faultOf("+0;00;", 5);
        faultOf("+0;+", 3);
        faultOf("+0;0+0", 5);
        faultOf("+0;0++", 5);
        faultOf("+0;0+-", 5);
        faultOf("+0;-", 3);
    }

    private static void faultOfLongerTables() {
        faultOf("0+0;+-+;0+0;", NONE);
        faultOf("0+0;+-+;0+0;;", 12);
        faultOf("0+0;+-+;0+0;0", 12);
        faultOf("0+0;+-+;0+0", 11);
        faultOf("0+0;+-+;+", 8);
        faultOf("0+0;+-+;00+", 10);
        faultOf("0+0;+-0;", 7);
        faultOf("0+0;+;", 5);
        faultOf("+00;0+;", 6);
        faultOf("+00;0+0;00;", 10);
        faultOf("0+0;+-0+", 7);
        faultOf("0+0;0-", 5);
        faultOf("0+0;0+", 5);
        faultOf("0+0;+0+", 6);
        faultOf("00000+0", 6);
        faultOf("00000+;", 7);
        faultOf("000000;", 6);
        faultOf("000000+", 6);
        faultOf("000000x", 6);
        faultOf("00000+;+00000;000+00;00+000;0+0000;0000+0;", NONE);
        faultOf("00000+;+00000;000+00;00+000;0+0000;0000+0;0", 42);
        faultOf("00000+;+00000;000+00;00+000;0+0000;", 35);
        faultOf("00+0;0+-+;+-+0;0+00;", NONE);
        faultOf("00+0;0+-+;+-+-+", 14);
    }

    private static void lay() {
        AlternateSigns x = new AlternateSigns();
        Due.same("nothing to lay", x.lay(), NO);
        x.flip(1, 1);
        Due.write(x, "0+;+");
        Due.same("a fault", x.lay(), NO);
        Due.same("what was can still be undone", x.count(5), 1);
        Due.table("nothing changes", x, "+00;00+;0+0;");
        Due.same("letters stay", x.write('0'), 5);
        Due.same("and on", x.write(';'), 6);
        Due.same("lay", x.lay(), 2);
        Due.same("letters stay", x.count(6), 6);
        Due.same("none can be undone behind it", x.undo(), NO);
        Due.same("count 5", x.count(5), 0);
        Due.table("laid", x, "0+;+0;");
        Due.same("flip", x.flip(1, 1), 0);
        Due.same("lay again", x.lay(), 2);
        Due.same("none can be undone", x.count(5), 0);
        Due.table("laid again", x, "0+;+0;");
        x.keep();
        Due.lay(x, "+;");
        Due.same("the other stays", x.count(7), 2);
    }

    private static void take() {
        AlternateSigns x = new AlternateSigns();
        Due.same("n 0", x.take(0, 0), BAD);
        Due.same("n 7", x.take(7, 0), BAD);
        Due.same("n and rank", x.take(-1, -1), BAD);
        Due.same("n and rank", x.take(7, Integer.MAX_VALUE), BAD);
        Due.same("rank below", x.take(1, -1), NONE);
        Due.same("rank far below", x.take(6, Integer.MIN_VALUE), NONE);
        int[] many = {1, 2, 7, 42, 429, 7436};
        for (int n = 1; n <= 6; n++) {
            Due.same("rank above", x.take(n, many[n - 1]), NONE);
            Due.same("rank far above", x.take(n, Integer.MAX_VALUE), NONE);
        }
        Due.same("nothing has changed", x.count(5), 0);
        Due.table("nothing has changed", x, "0+0;+-+;0+0;");
        String[] threes = {"+00;0+0;00+;", "+00;00+;0+0;", "0+0;+00;00+;", "0+0;+-+;0+0;",
            "0+0;00+;+00;", "00+;+00;0+0;", "00+;0+0;+00;"};
        for (int rank = 0; rank < 7; rank++) {
            Due.same("take", x.take(3, rank), 3);
            Due.table("taken", x, threes[rank]);
        }
        Due.same("first of six", x.take(6, 0), 6);
        Due.table("first of six", x, "+00000;0+0000;00+000;000+00;0000+0;00000+;");
        Due.same("last of six", x.take(6, 7435), 6);
        Due.table("last of six", x, "00000+;0000+0;000+00;00+000;0+0000;+00000;");
        Due.same("the one of one", x.take(1, 0), 1);
        Due.table("the one of one", x, "+;");
        Due.same("letters stay", x.count(6), 0);
    }

    private static void undo() {
        AlternateSigns x = new AlternateSigns();
        x.take(6, 100);
        x.take(2, 0);
        Due.same("undo", x.undo(), 1);
        Due.same("size is back", x.count(0), 6);
        Due.same("rank is back", x.rank(), 100);
        Due.same("undo", x.undo(), 0);
        Due.table("as at first", x, "0+0;+-+;0+0;");
        Due.same("no more", x.undo(), NO);
        Due.table("nothing changes", x, "0+0;+-+;0+0;");
        for (int rank = 0; rank < 9; rank++) {
            x.take(4, rank);
            Due.same("six at most", x.count(5), Math.min(rank + 1, 6));
        }
        for (int left = 5; left >= 0; left--) {
            Due.same("undo", x.undo(), left);
            Due.same("rank", x.rank(), left + 2);
            Due.same("count 5", x.count(5), left);
        }
        Due.same("the seventh is gone", x.undo(), NO);
        Due.same("rank", x.rank(), 2);
        x.take(4, 30);
        Due.same("a new one can be", x.undo(), 0);
        Due.same("rank", x.rank(), 2);
    }

    private static void whatCanBeUndone() {
        AlternateSigns x = new AlternateSigns();
        x.keep();
        Due.same("flip", x.flip(1, 1), 0);
        Due.same("all of one call", x.gyrate(100) > 0 ? 1 : 0, 1);
        Due.same("count 5", x.count(5), 2);
        x.undo();
        Due.table("behind flip", x, "+00;00+;0+0;");
        Due.same("lower", x.both(0), 0);
        Due.same("without change", x.count(5), 2);
        Due.same("upper", x.both(1), 1);
        Due.same("count 5", x.count(5), 3);
        x.undo();
        Due.table("behind flip", x, "+00;00+;0+0;");
        Due.same("without change", x.turn(6), 0);
        Due.same("count 5", x.count(5), 3);
        Due.same("quarter", x.turn(1), 4);
        Due.same("mirrored", x.turn(4), 4);
        Due.same("count 5", x.count(5), 5);
        x.undo();
        x.undo();
        x.undo();
        Due.table("behind flip", x, "+00;00+;0+0;");
        Due.same("undo", x.undo(), 1);
        Due.same("undo", x.undo(), 0);
        Due.table("as at first", x, "0+0;+-+;0+0;");
        x.take(1, 0);
        Due.same("nothing to flip", x.gyrate(1), 0);
        Due.same("taken as it was", x.take(1, 0), 1);
        Due.same("all of them can be undone", x.count(5), 3);
    }

    private static void whatIsNoChange() {
        AlternateSigns x = new AlternateSigns();
        x.flip(1, 1);
        x.keep();
        x.write('+');
        x.wipe();
        x.fault();
        x.orbit();
        x.apart();
        x.next();
        x.rank();
        x.alike();
        x.ways(5, 3);
        x.flip(0, 0);
        x.flip(1, 2);
        x.gyrate(0);
        x.turn(0);
        x.both(2);
        x.take(3, 7);
        Due.table("as it was", x, "+00;00+;0+0;");
        Due.same("count 5", x.count(5), 1);
        Due.same("undo", x.undo(), 0);
        Due.same("the other is not undone", x.count(7), 3);
        Due.same("apart", x.apart(), 1);
    }

    private static void keep() {
        AlternateSigns x = new AlternateSigns();
        Due.same("keep", x.keep(), 3);
        Due.same("count 7", x.count(7), 3);
        Due.same("apart", x.apart(), 0);
        x.flip(1, 1);
        Due.same("the other does not follow", x.apart(), 1);
        x.take(6, 5);
        Due.same("keep in its place", x.keep(), 6);
        Due.same("count 7", x.count(7), 6);
        x.undo();
        Due.same("the other stays", x.count(7), 6);
        Due.same("not alike", x.apart(), NO);
        x.take(1, 0);
        Due.same("keep", x.keep(), 1);
        Due.same("apart", x.apart(), 0);
    }
}
