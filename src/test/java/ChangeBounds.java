import java.util.LinkedHashMap;
import java.util.Map;

/** Sentences on the order of tables, changes and what can be undone, THE OTHER, and refused calls. */
final class ChangeBounds extends Bounds {
    private static final String TERMS = "Terms";
    private static final String NEW_TABLE = "0+0;+-+;0+0;";
    private static final int MOST_UNDONE = 6;

    private ChangeBounds() {
    }

    static void all() {
        greaterSignIsAhead();
        rankIsHowManyAreAhead();
        eachChange();
        latestIsUndone();
        lastSixCanBe();
        changeByWhichAllIsAsItWas();
        behindLaidNoneCanBe();
        whatIsNoChange();
        otherIsNoneAtFirst();
        otherStaysWhenLaid();
        headsOfTheInterface();
        bad();
        no();
        none();
        full();
        firstInOrder();
        nothingChanges();
        asItIsWhenAsked();
        onlyAsking();
    }

    private static void greaterSignIsAhead() {
        Document.says(TERMS, "ORDER of all TABLES of N: by the first place, row by row from above, in each from the left,"
            + " in which two have unlike SIGNS: the one with the greater SIGN is ahead.");
        for (int n = 1; n <= 6; n++) {
            String before = "";
            for (int rank = 0; rank < MANY[n - 1]; rank++) {
                AlternateSigns x = Due.taken(n, rank);
                String letters = Due.letters(x);
                Due.holds(before + " is ahead of " + letters, before.isEmpty() || isAhead(before, letters));
                before = letters;
            }
        }
        String[] threes = {"+00;0+0;00+;", "+00;00+;0+0;", "0+0;+00;00+;", NEW_TABLE, "0+0;00+;+00;", "00+;+00;0+0;",
            "00+;0+0;+00;"};
        for (int rank = 0; rank < threes.length; rank++) {
            Due.same("rank of " + threes[rank], Due.laid(threes[rank]).rank(), rank);
        }
        Due.same("0 is ahead of - at the first unlike place", Due.laid("0+00;+000;00+0;000+;").rank() + 2,
            Due.laid("0+00;+-+0;0+00;000+;").rank());
    }

    private static boolean isAhead(String one, String other) {
        for (int at = 0; at < one.length(); at++) {
            if (one.charAt(at) != other.charAt(at)) {
                return "-0+".indexOf(one.charAt(at)) > "-0+".indexOf(other.charAt(at));
            }
        }
        return false;
    }

    private static void rankIsHowManyAreAhead() {
        Document.says(TERMS, "RANK: how many are ahead.");
        for (int n = 1; n <= 6; n++) {
            for (int rank : ranks(n, 500)) {
                Due.same("rank of " + letters(n, rank), Due.laid(letters(n, rank)).rank(), rank);
            }
        }
        Due.same("none is ahead", Due.laid("+00000;0+0000;00+000;000+00;0000+0;00000+;").rank(), 0);
        Due.same("all but itself", Due.laid("00000+;0000+0;000+00;00+000;0+0000;+00000;").rank(), 7435);
    }

    /** Each call that is a change, for a table of N 3 beside an OTHER of N 3. */
    private static Map<String, Standing.Call> changes() {
        Map<String, Standing.Call> found = new LinkedHashMap<>();
        found.put("flip", x -> x.flip(1, 1));
        found.put("gyrate 1", x -> x.gyrate(1));
        found.put("gyrate 100", x -> x.gyrate(100));
        found.put("lower", x -> x.both(0));
        found.put("upper", x -> x.both(1));
        for (int k = 1; k <= 6; k++) {
            int way = k;
            found.put("turn " + k, x -> x.turn(way));
        }
        found.put("take", x -> x.take(5, 77));
        found.put("take the last", x -> x.take(6, 7435));
        return found;
    }

    private static void eachChange() {
        Document.says(TERMS, "A change: FLIPPED, GYRATED (all of one call at once), LOWER, UPPER, turned, mirrored, taken"
            + " by RANK.");
        changes().forEach((name, change) -> {
            for (int rank : new int[] {0, 1, 2, 3, 5, 6}) {
                AlternateSigns x = new AlternateSigns();
                x.keep();
                x.take(3, rank);
                boolean isDone = change.on(x) >= 0;
                Due.same(name + of(3, rank) + ", count 5", x.count(5), isDone ? 2 : 1);
                Due.same(name + of(3, rank) + ", undo", x.undo(), isDone ? 1 : 0);
                Due.table(name + " undone", x, isDone ? letters(3, rank) : NEW_TABLE);
            }
        });
        for (int n = 1; n <= 6; n++) {
            AlternateSigns x = Due.taken(n, MANY[n - 1] / 2);
            x.gyrate(100);
            Due.same("a hundred times are one change", x.count(5), 2);
            Due.same("undone at once", x.undo(), 1);
            isTable("undone at once", x, n, MANY[n - 1] / 2);
        }
    }

    private static void latestIsUndone() {
        Document.says(TERMS, "UNDONE is the latest change");
        AlternateSigns x = new AlternateSigns();
        x.take(6, 100);
        x.take(2, 1);
        x.take(5, 9);
        Due.same("undo", x.undo(), 2);
        isTable("undone", x, 2, 1);
        x.take(1, 0);
        Due.same("the latest is a new one", x.undo(), 2);
        isTable("undone", x, 2, 1);
        Due.same("undo", x.undo(), 1);
        isTable("undone", x, 6, 100);
        Due.same("undo", x.undo(), 0);
        Due.table("undone", x, NEW_TABLE);
        Due.same("no more", x.undo(), NO);
    }

    private static void lastSixCanBe() {
        Document.says(TERMS, "(the last 6 can be,");
        for (int many = 0; many <= 20; many++) {
            AlternateSigns x = new AlternateSigns();
            for (int rank = 0; rank < many; rank++) {
                x.take(4, rank);
                Due.same("changes", x.count(5), Math.min(rank + 1, MOST_UNDONE));
            }
            int can = Math.min(many, MOST_UNDONE);
            for (int left = can - 1; left >= 0; left--) {
                Due.same("undo behind " + many, x.undo(), left);
                Due.same("changes left", x.count(5), left);
                int rank = many - 1 - (can - left);
                Due.table("undone", x, rank < 0 ? NEW_TABLE : letters(4, rank));
            }
            Due.same("not one more behind " + many, x.undo(), NO);
            Due.same("nor again", x.undo(), NO);
            Due.same("changes", x.count(5), 0);
        }
        changes().forEach((name, change) -> {
            AlternateSigns x = new AlternateSigns();
            x.keep();
            for (int time = 1; time <= 7; time++) {
                boolean isDone = change.on(x) >= 0;
                Due.same(name + " for the " + time + "th time", x.count(5), isDone ? Math.min(time, 6) : x.count(5));
            }
        });
        undoneInPart();
    }

    /** Some undone, then others made: still six at most, and each goes back to what was ahead of it. */
    private static void undoneInPart() {
        for (int back = 0; back <= 6; back++) {
            for (int more = 0; more <= 7; more++) {
                AlternateSigns x = new AlternateSigns();
                for (int rank = 0; rank < 8; rank++) {
                    x.take(4, rank);
                }
                for (int time = 0; time < back; time++) {
                    x.undo();
                }
                for (int rank = 0; rank < more; rank++) {
                    x.take(5, rank);
                }
                int can = Math.min(6, 6 - back + more);
                Due.same("can be undone", x.count(5), can);
                for (int time = 1; time <= can; time++) {
                    Due.same("undo", x.undo(), can - time);
                    boolean isOfFive = more - time > 0;
                    isTable("undone", x, isOfFive ? 5 : 4, isOfFive ? more - 1 - time : 7 - back - (time - more));
                }
                Due.same("no more", x.undo(), NO);
            }
        }
    }

    private static void changeByWhichAllIsAsItWas() {
        Document.says(TERMS, "also one by which THE TABLE is as it was;");
        AlternateSigns one = Due.taken(1, 0);
        one.keep();
        Due.same("gyrate of one", one.gyrate(1), 0);
        Due.same("changes", one.count(5), 2);
        Due.same("lower of one", one.both(0), 0);
        Due.same("changes", one.count(5), 3);
        Due.same("upper of one", one.both(1), 0);
        Due.same("changes", one.count(5), 4);
        Due.same("take of one", one.take(1, 0), 1);
        Due.same("changes", one.count(5), 5);
        Due.same("turn of one", one.turn(1), 0);
        Due.same("changes", one.count(5), 6);
        Due.same("undo", one.undo(), 5);
        for (int k = 1; k <= 6; k++) {
            AlternateSigns x = new AlternateSigns();
            Due.same("turn " + k, x.turn(k), 0);
            Due.same("changes", x.count(5), 1);
            Due.same("undo", x.undo(), 0);
            Due.table("as it was", x, NEW_TABLE);
        }
        AlternateSigns x = new AlternateSigns();
        x.keep();
        Due.same("a whole orbit", x.gyrate(3), 8);
        Due.same("the same rank", x.take(3, 3), 3);
        Due.same("lower of alike", x.both(0), 0);
        Due.same("upper of alike", x.both(1), 0);
        Due.table("as it was", x, NEW_TABLE);
        Due.same("changes", x.count(5), 4);
        for (int left = 3; left >= 0; left--) {
            Due.same("undo", x.undo(), left);
            Due.table("as it was", x, NEW_TABLE);
        }
        sevenWithoutAnyMove();
    }

    /** Changes without a move push the older one out all the same. */
    private static void sevenWithoutAnyMove() {
        AlternateSigns x = new AlternateSigns();
        x.flip(1, 1);
        for (int time = 0; time < 6; time++) {
            x.turn(6);
        }
        for (int left = 5; left >= 0; left--) {
            Due.same("undo", x.undo(), left);
            Due.table("the flip stays", x, "+00;00+;0+0;");
        }
        Due.same("the flip is the seventh", x.undo(), NO);
    }

    private static void behindLaidNoneCanBe() {
        Document.says(TERMS, "behind LAID none can be).");
        for (int n = 1; n <= 6; n++) {
            for (int changes = 0; changes <= 7; changes++) {
                AlternateSigns x = new AlternateSigns();
                for (int time = 0; time < changes; time++) {
                    x.take(4, time);
                }
                Due.lay(x, letters(n, MANY[n - 1] - 1));
                Due.same("changes", x.count(5), 0);
                Due.same("undo", x.undo(), NO);
                isTable("laid", x, n, MANY[n - 1] - 1);
                for (int time = 1; time <= 7; time++) {
                    x.take(5, time);
                    Due.same("changes behind it", x.count(5), Math.min(time, 6));
                }
            }
            AlternateSigns x = Due.laid(letters(n, 0));
            x.take(5, 3);
            x.turn(1);
            Due.same("undo", x.undo(), 1);
            Due.same("undo", x.undo(), 0);
            isTable("not farther than laid", x, n, 0);
            Due.same("not farther than laid", x.undo(), NO);
        }
        AlternateSigns x = new AlternateSigns();
        x.flip(1, 1);
        Due.same("not laid", x.lay(), NO);
        Due.same("so it still can be", x.undo(), 0);
        Due.table("undone", x, NEW_TABLE);
    }

    private static void whatIsNoChange() {
        Document.says(TERMS, "taken by RANK. UNDONE is the latest change");
        for (int n = 1; n <= 6; n++) {
            AlternateSigns x = Due.taken(n, 0);
            x.turn(4);
            Due.same("write", x.write('+'), 1);
            Due.same("keep", x.keep(), n);
            Due.same("wipe", x.wipe(), 1);
            Due.same("lay without a text", x.lay(), NO);
            Due.same("fault", x.fault(), 0);
            x.orbit();
            Due.same("changes", x.count(5), 2);
            Due.same("undo", x.undo(), 1);
            Due.same("an undone one is no change", x.count(5), 1);
            isTable("undone", x, n, 0);
            Due.same("undo", x.undo(), 0);
            Due.table("undone", x, NEW_TABLE);
        }
    }

    private static void otherIsNoneAtFirst() {
        Document.says(TERMS, "THE OTHER is a TABLE that was KEPT (none at first);");
        AlternateSigns x = new AlternateSigns();
        Due.same("count 7", x.count(7), 0);
        Due.same("apart", x.apart(), NO);
        Due.same("next", x.next(), NO);
        Due.same("both", x.both(0), NO);
        Due.same("both", x.both(1), NO);
        for (int n = 1; n <= 6; n++) {
            x.take(n, 0);
            Due.same("not by take", x.count(7), 0);
            Due.same("apart", x.apart(), NO);
        }
        Due.lay(x, "0+;+0;");
        Due.same("not by lay", x.count(7), 0);
        for (int n = 1; n <= 6; n++) {
            for (int rank : ranks(n, 30)) {
                AlternateSigns y = Due.taken(n, rank);
                y.keep();
                isOther(y, n, rank);
            }
        }
    }

    /** The lowest table takes all greater heights of THE OTHER: then it is that one. */
    private static void isOther(AlternateSigns x, int n, int rank) {
        Due.same("N of the other", x.count(7), n);
        x.take(n, 0);
        x.both(1);
        isTable("the other", x, n, rank);
    }

    private static void otherStaysWhenLaid() {
        Document.says(TERMS, "LAID, it stays.");
        for (int n = 1; n <= 6; n++) {
            for (int m = 1; m <= 6; m++) {
                AlternateSigns x = Due.taken(n, MANY[n - 1] / 2);
                x.keep();
                Due.lay(x, letters(m, MANY[m - 1] - 1));
                Due.same("apart", x.apart() >= 0 ? 1 : 0, n == m ? 1 : 0);
                isOther(x, n, MANY[n - 1] / 2);
                x.undo();
                x.undo();
                isOther(x, n, MANY[n - 1] / 2);
                x.wipe();
                x.turn(1);
                x.gyrate(2);
                isOther(x, n, MANY[n - 1] / 2);
            }
        }
    }

    private static void headsOfTheInterface() {
        String[] heads = {"`write`, `wipe`, `fault`, `lay`, `take`, `undo`, `keep` the interface says: ---- told.",
            "`sign`, `corner`, `height`, `may`, `count` the interface says: ---- looked at.",
            "`flip`, `gyrate`, `orbit`, `apart`, `next`, `both`, `turn` the interface says: ---- flips.",
            "`across`, `down`, `partner`, `line` the interface says: ---- lines.",
            "`rank`, `many`, `alike`, `ways` the interface says: ---- all of a size."};
        for (String head : heads) {
            Document.onlyTells(TERMS, "Ahead of the calls " + head);
        }
    }

    private static void bad() {
        Document.says(TERMS, "BAD: a number is none that is told (places by N).");
        for (int n = 1; n <= 6; n++) {
            AlternateSigns x = Due.taken(6, 50);
            Due.holds("a place of N 6", x.sign(n - 1, 5) >= 99 && x.corner(n, 6) >= 0 && x.height(n, 6) >= 0);
            Due.holds("a place of N 6", x.across(n, 6) >= 0 && x.down(6, n) >= 0 && x.partner(2 * n - 1) >= 0);
            x.take(n, 0);
            Due.same("sign by N", x.sign(n, n - 1), BAD);
            Due.same("sign by N", x.sign(n - 1, n), BAD);
            Due.same("corner by N", x.corner(n + 1, n), BAD);
            Due.same("height by N", x.height(n, n + 1), BAD);
            Due.same("may by N", x.may(n, 1), BAD);
            Due.same("flip by N", x.flip(1, n), BAD);
            Due.same("across by N", x.across(n + 1, n), BAD);
            Due.same("down by N", x.down(n, n + 1), BAD);
            Due.same("partner by N", x.partner(2 * n), BAD);
            Due.same("line by N", x.line(2 * n), BAD);
        }
    }

    private static void no() {
        Document.says(TERMS, "NO: not as things stand.");
        AlternateSigns x = Due.taken(3, 1);
        Due.same("not as it stands", x.flip(1, 2), NO);
        x.flip(1, 1);
        Due.same("but behind that", x.flip(1, 2), 3);
        Due.same("nothing kept", x.apart(), NO);
        x.keep();
        Due.same("but behind that", x.apart(), 0);
        Due.same("nothing written", x.lay(), NO);
        x.write('+');
        x.write(';');
        Due.same("but behind that", x.lay(), 1);
        Due.same("no change", x.undo(), NO);
        x.take(6, 1);
        Due.same("N is 6", x.alike(), NO);
        Due.same("but behind that", x.undo(), 0);
        Due.same("but behind that", x.alike(), 1);
    }

    private static void none() {
        Document.says(TERMS, "NONE: there is none.");
        AlternateSigns x = new AlternateSigns();
        Due.same("no such rank", x.take(3, 7), NONE);
        Due.same("no such way", x.ways(3, 5), NONE);
        x.keep();
        Due.same("no way on", x.next(), NONE);
        Due.lay(x, "+;");
        Due.same("no fault", x.fault(), NONE);
    }

    private static void full() {
        Document.says(TERMS, "NONE: there is none. FULL.");
        AlternateSigns x = new AlternateSigns();
        Standing.write(x, "+".repeat(199));
        Due.same("not yet", x.write('+'), 200);
        Due.same("full", x.write('+'), FULL);
        x.wipe();
        Due.same("no more", x.write('+'), 1);
    }

    private static void firstInOrder() {
        Document.says(TERMS, "Of several the first in the order in which a call tells them;");
        AlternateSigns x = new AlternateSigns();
        Standing.write(x, "+".repeat(200));
        Due.same("BAD; FULL", x.write(31), BAD);
        Due.same("BAD; FULL", x.write(127), BAD);
        Due.same("FULL alone", x.write(126), FULL);
        for (int n : beyond(1, 6)) {
            for (int rank : new int[] {-1, 7436, Integer.MAX_VALUE, Integer.MIN_VALUE}) {
                Due.same("take: BAD; NONE", x.take(n, rank), BAD);
            }
        }
        for (int n : beyond(1, 5)) {
            for (int which : new int[] {-2, 42, Integer.MAX_VALUE, Integer.MIN_VALUE}) {
                Due.same("ways: BAD; NONE", x.ways(n, which), BAD);
            }
        }
        x.take(3, 1);
        Due.same("NO alone", x.flip(1, 2), NO);
        for (int number : beyond(1, 2)) {
            Due.same("flip: BAD; NO", x.flip(number, 2), BAD);
            Due.same("flip: BAD; NO", x.flip(1, number), BAD);
            Due.same("flip: BAD; NO", x.flip(number, number), BAD);
        }
        for (int which : beyond(0, 1)) {
            Due.same("both: BAD; NO, none kept", x.both(which), BAD);
        }
        x.keep();
        x.take(2, 0);
        for (int which : beyond(0, 1)) {
            Due.same("both: BAD; NO, N not alike", x.both(which), BAD);
        }
        Due.same("next: NO; NONE", x.next(), NO);
    }

    private static void nothingChanges() {
        Document.says(TERMS, "nothing changes then.");
        isRefused("write 31", x -> x.write(31), BAD);
        isRefused("write 127", x -> x.write(127), BAD);
        isRefused("take 0 0", x -> x.take(0, 0), BAD);
        isRefused("take 7 0", x -> x.take(7, 0), BAD);
        isRefused("take 3 -1", x -> x.take(3, -1), NONE);
        isRefused("take 6 7436", x -> x.take(6, 7436), NONE);
        isRefused("gyrate 0", x -> x.gyrate(0), BAD);
        isRefused("gyrate 101", x -> x.gyrate(101), BAD);
        isRefused("both -1", x -> x.both(-1), BAD);
        isRefused("both 2", x -> x.both(2), BAD);
        isRefused("turn 0", x -> x.turn(0), BAD);
        isRefused("turn 7", x -> x.turn(7), BAD);
        isRefused("flip 0 1", x -> x.flip(0, 1), BAD);
        isRefused("flip 1 6", x -> x.flip(1, 6), BAD);
        for (int n = 1; n <= 6; n++) {
            for (Standing standing : Standing.ofSize(n)) {
                if (standing.letters == 200) {
                    standing.keepsStill("write full", x -> x.write('+'), FULL);
                }
                if (standing.letters != standing.size * (standing.size + 1)) {
                    standing.keepsStill("lay", x -> x.lay(), NO);
                }
                if (standing.changes == 0) {
                    standing.keepsStill("undo", x -> x.undo(), NO);
                }
                if (standing.other != standing.size) {
                    standing.keepsStill("lower", x -> x.both(0), NO);
                    standing.keepsStill("upper", x -> x.both(1), NO);
                    standing.keepsStill("apart", x -> x.apart(), NO);
                    standing.keepsStill("next", x -> x.next(), NO);
                }
            }
        }
    }

    private static void asItIsWhenAsked() {
        Document.says(TERMS, "Sums, HEIGHTS, RANKS are of THE TABLE as it is when that is asked.");
        AlternateSigns x = new AlternateSigns();
        standsAs(x, 3, 3);
        x.flip(1, 1);
        standsAs(x, 3, 1);
        x.take(5, 222);
        standsAs(x, 5, 222);
        x.undo();
        standsAs(x, 3, 1);
        x.keep();
        x.take(3, 2);
        x.both(1);
        standsAs(x, 3, 3);
        x.gyrate(1);
        standsAs(x, 3, 0);
        x.turn(4);
        standsAs(x, 3, 6);
        Due.lay(x, letters(4, 41));
        standsAs(x, 4, 41);
        x.take(1, 0);
        standsAs(x, 1, 0);
        x.undo();
        standsAs(x, 4, 41);
    }

    private static void standsAs(AlternateSigns x, int n, int rank) {
        int[][] heights = HeightBounds.heightsOf(table(n, rank));
        Due.same("rank", x.rank(), rank);
        int last = n / 2 + 1;
        for (int at = 0; at <= last; at++) {
            int i = Math.min(at, n);
            Due.same("height", x.height(i, last - at), heights[i][last - at]);
            Due.same("corner", x.corner(i, last - at), (i + last - at - heights[i][last - at]) / 2);
        }
        Due.same("count 0", x.count(0), n);
        Due.same("partner", x.partner(x.partner(0)), 0);
    }

    private static void onlyAsking() {
        Document.says(TERMS, "are of THE TABLE as it is when that is asked.");
        for (int n = 1; n <= 6; n++) {
            for (Standing standing : Standing.ofSize(n)) {
                standing.keepsStill("fault", x -> x.fault());
                standing.keepsStill("sign", x -> x.sign(0, 0));
                standing.keepsStill("corner", x -> x.corner(1, 1));
                standing.keepsStill("height", x -> x.height(1, 1));
                standing.keepsStill("may", x -> x.may(1, 1));
                for (int what = 0; what <= 11; what++) {
                    int asked = what;
                    standing.keepsStill("count " + what, x -> x.count(asked));
                }
                standing.keepsStill("orbit", x -> x.orbit());
                standing.keepsStill("apart", x -> x.apart());
                standing.keepsStill("next", x -> x.next());
                standing.keepsStill("across", x -> x.across(1, 1));
                standing.keepsStill("down", x -> x.down(1, 1));
                standing.keepsStill("partner", x -> x.partner(1));
                standing.keepsStill("line", x -> x.line(1));
                standing.keepsStill("rank", x -> x.rank());
                standing.keepsStill("many", x -> x.many(6, -1));
                standing.keepsStill("many", x -> x.many(4, 2));
                standing.keepsStill("alike", x -> x.alike());
                standing.keepsStill("ways", x -> x.ways(5, -1));
                standing.keepsStill("ways", x -> x.ways(4, 3));
            }
        }
    }
}
