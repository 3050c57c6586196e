import java.util.List;
import java.util.Random;

/** Runs of 512 calls, the same at each start, answered as the oracle answers. */
public final class RandomRunsTest {
    private static final int RUNS = 800;
    private static final int CALLS = 512;
    /** So many calls at most are made at a time. */
    private static final int AT_A_TIME = 5;
    private static final int[] ODD = {Integer.MIN_VALUE, Integer.MAX_VALUE, -2, -1, 0, 7, 8, 12, 13, 100, 101, 1 << 30};

    private final Random random;
    private final AlternateSigns x = new AlternateSigns();
    private final Oracle oracle = new Oracle();
    private final StringBuilder planned = new StringBuilder();

    private RandomRunsTest(long seed) {
        random = new Random(seed);
    }

    public static void main(String[] args) {
        for (int run = 0; run < RUNS; run++) {
            new RandomRunsTest(run).go(run);
        }
        Due.end();
    }

    private void go(int run) {
        int before = Due.asked();
        // Each answer that is compared is that of one call.
        for (int calls = 0; calls < CALLS; calls = Due.asked() - before) {
            String at = "run " + run + ", behind call " + calls + ", ";
            if (calls <= CALLS - AT_A_TIME) {
                one(at);
            } else {
                Due.same(at + "rank", x.rank(), oracle.rank());
            }
        }
    }

    private int number(int least, int most) {
        return random.nextInt(25) == 0 ? ODD[random.nextInt(ODD.length)] : least + random.nextInt(most - least + 1);
    }

    private int place(int least, int over) {
        return number(least, oracle.count(0) + over);
    }

    private void one(String at) {
        if (planned.length() > 0 && random.nextInt(40) > 0) {
            writeOne(at);
            return;
        }
        switch (random.nextInt(8)) {
            case 0: told(at); break;
            case 1: case 2: looked(at); break;
            case 3: case 4: case 5: flips(at); break;
            case 6: lines(at); break;
            default: allOfASize(at);
        }
    }

    /** Letter by letter, FAULT asked behind most of them. */
    private void writeOne(String at) {
        int letter = random.nextInt(150) == 0 ? number(30, 128) : planned.charAt(0);
        planned.deleteCharAt(0);
        Due.same(at + "write " + letter, x.write(letter), oracle.write(letter));
        Due.same(at + "fault", x.fault(), oracle.fault());
        if (planned.length() == 0) Due.same(at + "lay", x.lay(), oracle.lay());
    }

    private void told(String at) {
        switch (random.nextInt(12)) {
            case 0: Due.same(at + "wipe", x.wipe(), oracle.wipe()); plan(); break;
            case 1: Due.same(at + "lay", x.lay(), oracle.lay()); break;
            case 2: Due.same(at + "fault", x.fault(), oracle.fault()); break;
            case 3: { int letter = "+-0;+-0;x".charAt(random.nextInt(9)); Due.same(at + "write", x.write(letter), oracle.write(letter)); break; }
            case 4: case 5: Due.same(at + "keep", x.keep(), oracle.keep()); break;
            case 6: case 7: case 8: Due.same(at + "undo", x.undo(), oracle.undo()); break;
            default: {
                int n = random.nextBoolean() ? oracle.count(0) : number(1, 6);
                int most = n >= 1 && n <= 6 ? Oracle.all(n).size() : 5;
                int rank = number(-1, most);
                Due.same(at + "take " + n + " " + rank, x.take(n, rank), oracle.take(n, rank));
            }
        }
    }

    private void plan() {
        List<int[][]> all = Oracle.all(1 + random.nextInt(6));
        planned.append(Oracle.letters(all.get(random.nextInt(all.size()))));
        if (random.nextInt(4) == 0) planned.setCharAt(random.nextInt(planned.length()), "+-0;".charAt(random.nextInt(4)));
    }

    private void looked(String at) {
        int i = place(-1, 1);
        int j = place(-1, 1);
        int what = number(-1, 12);
        Due.same(at + "sign " + i + " " + j, x.sign(i, j), oracle.sign(i, j));
        Due.same(at + "corner " + i + " " + j, x.corner(i, j), oracle.corner(i, j));
        Due.same(at + "height " + i + " " + j, x.height(i, j), oracle.height(i, j));
        Due.same(at + "may " + i + " " + j, x.may(i, j), oracle.may(i, j));
        Due.same(at + "count " + what, x.count(what), oracle.count(what));
    }

    private void flips(String at) {
        switch (random.nextInt(9)) {
            case 0: { int n = number(1, 100); Due.same(at + "gyrate " + n, x.gyrate(n), oracle.gyrate(n)); break; }
            case 1: Due.same(at + "orbit", x.orbit(), oracle.orbit()); break;
            case 2: Due.same(at + "apart", x.apart(), oracle.apart()); break;
            case 3: wayOn(at); break;
            case 4: { int which = number(0, 1); Due.same(at + "both " + which, x.both(which), oracle.both(which)); break; }
            case 5: { int k = number(0, 7); Due.same(at + "turn " + k, x.turn(k), oracle.turn(k)); break; }
            default: {
                int i = place(0, 0);
                int j = place(0, 0);
                Due.same(at + "flip " + i + " " + j, x.flip(i, j), oracle.flip(i, j));
            }
        }
    }

    private void wayOn(String at) {
        int step = oracle.next();
        Due.same(at + "next", x.next(), step);
        if (step > 0) Due.same(at + "flip " + step, x.flip(step / 10, step % 10), oracle.flip(step / 10, step % 10));
    }

    private void lines(String at) {
        int r = place(-1, 1);
        int c = place(-1, 1);
        int end = number(-1, 2 * oracle.count(0));
        Due.same(at + "across " + r + " " + c, x.across(r, c), oracle.across(r, c));
        Due.same(at + "down " + r + " " + c, x.down(r, c), oracle.down(r, c));
        Due.same(at + "partner " + end, x.partner(end), oracle.partner(end));
        Due.same(at + "line " + end, x.line(end), oracle.line(end));
    }

    private void allOfASize(String at) {
        int n = number(0, 7);
        int column = number(-2, 6);
        int which = number(-2, 43);
        Due.same(at + "rank", x.rank(), oracle.rank());
        Due.same(at + "many " + n + " " + column, x.many(n, column), oracle.many(n, column));
        Due.same(at + "alike", x.alike(), oracle.alike());
        Due.same(at + "ways " + n + " " + which, x.ways(n, which), oracle.ways(n, which));
    }
}
