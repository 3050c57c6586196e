import java.util.ArrayList;
import java.util.List;
import java.util.function.Consumer;

/**
 * How things can stand when a call comes: objects of each size with and without letters, changes
 * and an OTHER. What a call may not change is looked for by a twin on which it was not called.
 */
final class Standing {
    private static final int[] MANY = {1, 2, 7, 42, 429, 7436};
    private static final List<List<Standing>> ALL = new ArrayList<>();

    /** A call on an object. */
    interface Call {
        int on(AlternateSigns x);
    }

    final String name;
    final int size;
    /** N of THE OTHER, 0 if there is none. */
    final int other;
    final int changes;
    final int letters;
    private final Consumer<AlternateSigns> setup;
    private final String untouched;

    private Standing(String name, int[] told, Consumer<AlternateSigns> setup) {
        this.name = name;
        size = told[0];
        other = told[1];
        changes = told[2];
        letters = told[3];
        this.setup = setup;
        untouched = everythingOf(made());
    }

    AlternateSigns made() {
        AlternateSigns x = new AlternateSigns();
        setup.accept(x);
        return x;
    }

    /** A call that is refused, or one that only asks: it answers so, and nothing changes. */
    void keepsStill(String call, Call called, int due) {
        AlternateSigns x = made();
        Due.same(call + ", " + name, called.on(x), due);
        Due.same("what stands behind " + call + ", " + name, everythingOf(x), untouched);
    }

    void keepsStill(String call, Call called) {
        AlternateSigns x = made();
        called.on(x);
        Due.same("what stands behind " + call + ", " + name, everythingOf(x), untouched);
    }

    static List<Standing> ofSize(int n) {
        if (ALL.isEmpty()) {
            for (int size = 1; size <= 6; size++) {
                ALL.add(make(size));
            }
        }
        return ALL.get(n - 1);
    }

    private static List<Standing> make(int n) {
        int most = MANY[n - 1];
        int unlike = n % 6 + 1;
        int wholeText = n * (n + 1);
        List<Standing> found = new ArrayList<>();
        found.add(new Standing("N " + n + " and no OTHER", new int[] {n, 0, 1, 0}, x -> x.take(n, most / 2)));
        found.add(new Standing("N " + n + " laid, an OTHER of its N", new int[] {n, n, 0, wholeText}, x -> {
            x.take(n, most / 3);
            x.keep();
            x.take(n, most - 1);
            write(x, Oracle.letters(Oracle.all(n).get(2 * most / 3)));
            x.lay();
        }));
        found.add(new Standing("N " + n + " changed often, an OTHER of N " + unlike, new int[] {n, unlike, 6, 4}, x -> {
            x.take(unlike, MANY[unlike - 1] / 2);
            x.keep();
            write(x, "0+;+");
            for (int time = 0; time < 3; time++) {
                x.take(n, most * time / 3);
                x.turn(1 + time);
                x.gyrate(3);
            }
        }));
        found.add(new Standing("N " + n + " behind 200 letters", new int[] {n, n, 2, 200}, x -> {
            write(x, "+;x".repeat(67).substring(0, 200));
            x.take(n, 0);
            x.keep();
            x.take(n, most - 1);
            x.undo();
            x.take(n, most / 2);
        }));
        if (n == 3) {
            found.add(new Standing("a new object", new int[] {3, 0, 0, 0}, x -> { }));
        }
        return found;
    }

    static void write(AlternateSigns x, String letters) {
        for (int at = 0; at < letters.length(); at++) {
            x.write(letters.charAt(at));
        }
    }

    /** Uses the object up: THE TABLE, THE TEXT, what can be undone and THE OTHER, in some fifty calls. */
    static String everythingOf(AlternateSigns x) {
        StringBuilder all = new StringBuilder();
        for (int what = 0; what <= 11; what++) {
            all.append(x.count(what)).append(' ');
        }
        all.append("fault ").append(x.fault()).append(" rank ").append(x.rank());
        all.append(" apart ").append(x.apart()).append(" next ").append(x.next()).append(" undone");
        for (int time = 0; time < 7; time++) {
            all.append(' ').append(x.undo()).append(':').append(x.count(0)).append(':').append(x.rank());
        }
        // The lowest table takes all greater heights of THE OTHER: then it is that one.
        int size = x.count(7);
        all.append(" other ").append(x.take(size, 0)).append(' ').append(x.both(1)).append(' ').append(x.rank());
        all.append(" laid ").append(x.lay()).append(' ').append(x.rank());
        all.append(" letters ").append(x.write('+')).append(' ').append(x.fault()).append(' ').append(x.wipe());
        return all.toString();
    }
}
