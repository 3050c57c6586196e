/** Sentences of promises 1 to 8: a new object, write, wipe, fault, lay, take, undo, keep. */
final class ToldBounds extends Bounds {
    private static final String NEW_TABLE = "0+0;+-+;0+0;";
    private static final int[] LENGTHS = {0, 1, 2, 41, 42, 43, 199, 200};

    private ToldBounds() {
    }

    static void all() {
        newObjectAsTold();
        newObjectHasNoText();
        newObjectHasNoOther();
        writeFrom32To126();
        writeBad();
        writeFull();
        wipe();
        fault();
        faultNone();
        layAnswersN();
        layNo();
        takeWithARank();
        takeBad();
        takeNone();
        takeRankBelow0();
        undo();
        undoNo();
        keep();
    }

    private static void newObjectAsTold() {
        Document.says("Promise 1", "As told;");
        AlternateSigns x = new AlternateSigns();
        Due.table("at first", x, NEW_TABLE);
        Due.same("N", x.count(0), 3);
        Due.same("changes", x.count(5), 0);
        Due.same("undo", x.undo(), NO);
        x.take(6, 3);
        x.keep();
        x.write('+');
        Due.table("the next one likewise", new AlternateSigns(), NEW_TABLE);
    }

    private static void newObjectHasNoText() {
        Document.says("Promise 1", "THE TEXT is empty;");
        AlternateSigns x = new AlternateSigns();
        Due.same("count 6", x.count(6), 0);
        Due.same("fault", x.fault(), 0);
        Due.same("lay", x.lay(), NO);
        Due.same("wipe", x.wipe(), 0);
        Due.same("write", x.write('+'), 1);
        Due.same("the next one likewise", new AlternateSigns().wipe(), 0);
    }

    private static void newObjectHasNoOther() {
        Document.says("Promise 1", "no OTHER.");
        AlternateSigns x = new AlternateSigns();
        Due.same("count 7", x.count(7), 0);
        Due.same("apart", x.apart(), NO);
        Due.same("next", x.next(), NO);
        Due.same("lower", x.both(0), NO);
        Due.same("upper", x.both(1), NO);
        x.keep();
        Due.same("the next one likewise", new AlternateSigns().count(7), 0);
    }

    private static void writeFrom32To126() {
        Document.says("Promise 2", "A letter (32 to 126, as in ASCII) comes behind THE TEXT: how long it is.");
        AlternateSigns up = new AlternateSigns();
        AlternateSigns down = new AlternateSigns();
        for (int letter = 32; letter <= 126; letter++) {
            Due.same("write " + letter, up.write(letter), letter - 31);
            Due.same("count 6", up.count(6), letter - 31);
            Due.same("write " + (158 - letter), down.write(158 - letter), letter - 31);
        }
        AlternateSigns x = new AlternateSigns();
        int[] ascii = {48, 43, 48, 59, 43, 45, 43, 59, 48, 43, 48, 59};
        for (int at = 0; at < ascii.length; at++) {
            Due.same("write " + ascii[at], x.write(ascii[at]), at + 1);
        }
        Due.same("fault of 0+0;+-+;0+0; in ASCII", x.fault(), NONE);
        Due.same("behind it, not ahead of it", x.write(43), 13);
        Due.same("fault", x.fault(), 12);
    }

    private static void writeBad() {
        Document.says("Promise 2", "BAD;");
        for (int letter : beyond(32, 126)) {
            isRefused("write " + letter, x -> x.write(letter), BAD);
        }
        for (int letter : new int[] {0, 9, 10, 13, 65536 + '+', 256 + '0', 128, 255, -'+'}) {
            isRefused("write " + letter, x -> x.write(letter), BAD);
        }
    }

    private static void writeFull() {
        Document.says("Promise 2", "FULL: it has 200.");
        for (int letter = 32; letter <= 126; letter++) {
            AlternateSigns x = new AlternateSigns();
            Standing.write(x, "0+;+0;".repeat(33));
            Due.same("letter 199", x.write(letter), 199);
            Due.same("letter 200", x.write(letter), 200);
            Due.same("letter 201", x.write(letter), FULL);
            Due.same("and again", x.write(letter), FULL);
            Due.same("count 6", x.count(6), 200);
            Due.same("the text is as it was", x.fault(), 6);
        }
        for (int n = 1; n <= 6; n++) {
            for (Standing standing : Standing.ofSize(n)) {
                if (standing.letters == 200) {
                    standing.keepsStill("write 32", x -> x.write(32), FULL);
                    standing.keepsStill("write 126", x -> x.write(126), FULL);
                }
            }
        }
    }

    private static void wipe() {
        Document.says("Promise 3", "THE TEXT is empty: how long it was.");
        for (int length : LENGTHS) {
            AlternateSigns x = new AlternateSigns();
            Standing.write(x, "+;".repeat(100).substring(0, length));
            Due.same("wipe of " + length, x.wipe(), length);
            Due.same("count 6", x.count(6), 0);
            Due.same("fault", x.fault(), 0);
            Due.same("lay", x.lay(), NO);
            Due.same("wipe of none", x.wipe(), 0);
            Due.same("write", x.write('+'), 1);
            Due.same("write", x.write(';'), 2);
            Due.same("no letter is left from before", x.fault(), NONE);
        }
        for (int n = 1; n <= 6; n++) {
            for (Standing standing : Standing.ofSize(n)) {
                if (standing.letters == 0) {
                    standing.keepsStill("wipe", x -> x.wipe(), 0);
                } else {
                    AlternateSigns x = standing.made();
                    int rank = x.rank();
                    Due.same("wipe, " + standing.name, x.wipe(), standing.letters);
                    Due.same("changes", x.count(5), standing.changes);
                    Due.same("other", x.count(7), standing.other);
                    isTable("the table stays", x, n, rank);
                }
            }
        }
    }

    private static void fault() {
        Document.says("Promise 4", "FAULT.");
        String[] texts = {"", "+", "0", "-", ";", "x", "0+", "0+;", "0+;+", "0+;+0", "0+;0+", "0+;+0;;", "+;+", "000000+",
            "00000+;", "00000+;+000000", "+00;00+;0+0;0", "0+0;0-"};
        int[] faults = {0, 1, 1, 0, 0, 0, 2, 3, 4, 5, 4, 6, 2, 6, 7, 13, 12, 5};
        for (int at = 0; at < texts.length; at++) {
            AlternateSigns x = new AlternateSigns();
            Standing.write(x, texts[at]);
            Due.same("fault of " + texts[at], x.fault(), faults[at]);
            Due.same("and again", x.fault(), faults[at]);
            Due.same("the text stays", x.count(6), texts[at].length());
        }
    }

    private static void faultNone() {
        Document.says("Promise 4", "NONE.");
        for (int n = 1; n <= 6; n++) {
            for (int rank : ranks(n, 500)) {
                AlternateSigns x = new AlternateSigns();
                Standing.write(x, letters(n, rank));
                Due.same("fault" + of(n, rank), x.fault(), NONE);
                Due.same("and again" + of(n, rank), x.fault(), NONE);
                Due.table("nothing is laid by it", x, NEW_TABLE);
            }
        }
    }

    private static void layAnswersN() {
        Document.says("Promise 5", "LAID: N (THE TEXT stays).");
        for (int n = 1; n <= 6; n++) {
            for (int rank : ranks(n, 100)) {
                AlternateSigns x = new AlternateSigns();
                Standing.write(x, letters(n, rank));
                Due.same("lay" + of(n, rank), x.lay(), n);
                isTable("laid", x, n, rank);
                Due.same("letters", x.count(6), n * (n + 1));
                Due.same("fault", x.fault(), NONE);
                x.take(5, 428);
                Due.same("lay again", x.lay(), n);
                isTable("laid again", x, n, rank);
                Due.same("wipe", x.wipe(), n * (n + 1));
                isTable("without the text", x, n, rank);
            }
        }
    }

    private static void layNo() {
        Document.says("Promise 5", "NO: a FAULT.");
        for (int n = 1; n <= 6; n++) {
            String whole = letters(n, MANY[n - 1] / 3);
            String[] wrong = {"", whole.substring(0, whole.length() - 1), whole + ";", whole + "0", "x" + whole, ";",
                whole.substring(0, 1), whole.substring(1)};
            for (String text : wrong) {
                for (Standing standing : Standing.ofSize(n)) {
                    layRefused(standing, text);
                }
            }
        }
    }

    /** Beside a twin on which the same was written. */
    private static void layRefused(Standing standing, String text) {
        AlternateSigns x = standing.made();
        AlternateSigns twin = standing.made();
        x.wipe();
        twin.wipe();
        Standing.write(x, text);
        Standing.write(twin, text);
        Due.same("lay of " + text + ", " + standing.name, x.lay(), NO);
        Due.same("what stands behind it", Standing.everythingOf(x), Standing.everythingOf(twin));
    }

    private static void takeWithARank() {
        Document.says("Promise 6", "The TABLE of N (n 1 to 6) with a RANK is THE TABLE: n.");
        for (int n = 1; n <= 6; n++) {
            for (int rank = 0; rank < MANY[n - 1]; rank++) {
                AlternateSigns x = new AlternateSigns();
                Due.same("take " + n + " " + rank, x.take(n, rank), n);
                isTable("taken", x, n, rank);
            }
            for (Standing standing : Standing.ofSize(n)) {
                for (int m = 1; m <= 6; m++) {
                    AlternateSigns x = standing.made();
                    Due.same("take " + m + " 0", x.take(m, 0), m);
                    isTable("the first", x, m, 0);
                    Due.same("take " + m + ", the last", x.take(m, MANY[m - 1] - 1), m);
                    isTable("the last", x, m, MANY[m - 1] - 1);
                    Due.same("letters stay", x.count(6), standing.letters);
                    Due.same("the other stays", x.count(7), standing.other);
                }
            }
        }
    }

    private static void takeBad() {
        Document.says("Promise 6", "BAD: n;");
        for (int n : beyond(1, 6)) {
            for (int rank : new int[] {0, 1, 7435, 7436, -1, Integer.MIN_VALUE, Integer.MAX_VALUE}) {
                isRefused("take " + n + " " + rank, x -> x.take(n, rank), BAD);
            }
        }
    }

    private static void takeNone() {
        Document.says("Promise 6", "NONE: there are not so many");
        for (int n = 1; n <= 6; n++) {
            int size = n;
            int many = MANY[n - 1];
            for (int rank : new int[] {many, many + 1, many + 256, many + 65536, Integer.MAX_VALUE}) {
                isRefused("take " + n + " " + rank, x -> x.take(size, rank), NONE);
            }
        }
    }

    private static void takeRankBelow0() {
        Document.says("Promise 6", "(or rank below 0).");
        for (int n = 1; n <= 6; n++) {
            int size = n;
            for (int rank : new int[] {-1, -2, -MANY[n - 1], Integer.MIN_VALUE, Integer.MIN_VALUE + 1}) {
                isRefused("take " + n + " " + rank, x -> x.take(size, rank), NONE);
            }
        }
    }

    private static void undo() {
        Document.says("Promise 7", "UNDONE: how many more can be.");
        for (int n = 1; n <= 6; n++) {
            for (Standing standing : Standing.ofSize(n)) {
                AlternateSigns x = standing.made();
                for (int left = standing.changes - 1; left >= 0; left--) {
                    Due.same("undo, " + standing.name, x.undo(), left);
                }
                Due.same("undo, " + standing.name, x.undo(), NO);
                Due.same("letters stay", x.count(6), standing.letters);
                Due.same("the other stays", x.count(7), standing.other);
            }
            for (int m = 1; m <= 6; m++) {
                AlternateSigns x = Due.taken(n, MANY[n - 1] - 1);
                x.take(m, 0);
                Due.same("undo of N " + m, x.undo(), 1);
                isTable("undone", x, n, MANY[n - 1] - 1);
                Due.same("undo of N " + n, x.undo(), 0);
                Due.table("undone", x, NEW_TABLE);
            }
        }
    }

    private static void undoNo() {
        Document.says("Promise 7", "NO.");
        for (Standing standing : Standing.ofSize(3)) {
            if (standing.changes == 0) {
                standing.keepsStill("undo", x -> x.undo(), NO);
            }
        }
        for (int n = 1; n <= 6; n++) {
            AlternateSigns x = Due.laid(letters(n, 0));
            Due.same("undo of laid", x.undo(), NO);
            isTable("laid", x, n, 0);
            x.take(5, 5);
            x.undo();
            Due.same("undo of undone", x.undo(), NO);
            Due.same("and again", x.undo(), NO);
            Due.same("none", x.count(5), 0);
            isTable("laid", x, n, 0);
        }
    }

    private static void keep() {
        Document.says("Promise 8", "THE TABLE is KEPT as THE OTHER, in place of the one that was: its N.");
        for (int n = 1; n <= 6; n++) {
            for (Standing standing : Standing.ofSize(n)) {
                AlternateSigns x = standing.made();
                int rank = x.rank();
                Due.same("keep, " + standing.name, x.keep(), n);
                Due.same("N of the other", x.count(7), n);
                Due.same("apart", x.apart(), 0);
                Due.same("next", x.next(), NONE);
                Due.same("no change", x.count(5), standing.changes);
                Due.same("letters stay", x.count(6), standing.letters);
                isTable("the table stays", x, n, rank);
                x.take(n, 0);
                x.both(1);
                isTable("the other", x, n, rank);
                x.take(n, MANY[n - 1] - 1);
                x.both(0);
                isTable("the other did not follow", x, n, rank);
            }
        }
    }
}
