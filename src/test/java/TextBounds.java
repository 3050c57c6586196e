/** Sentences on tables, their size and signs, and THE TEXT with each letter by which there is a FAULT. */
final class TextBounds extends Bounds {
    private static final String TERMS = "Terms";
    private static final String NEW_TABLE = "0+0;+-+;0+0;";

    private TextBounds() {
    }

    static void all() {
        rowsAndColumnsOfEachSize();
        atMost512Calls();
        signsAre1And0AndLess1();
        signsTakeTurns();
        noOtherSquareIsATable();
        lettersAre200AtMost();
        rowsOneBehindTheOther();
        firstRowTellsN();
        firstWrongLetterCounts();
        noneOfTheFourLetters();
        signBehindSixInTheFirstRow();
        signBehindNInAnotherRow();
        sumOfTheRowSoFar();
        sumOfTheColumnSoFar();
        rowEndsWithNoSign();
        rowEndsWithFewerThanN();
        rowEndsWithAnotherSum();
        anyLetterBehindTheLastRow();
        fewerThanNRowsHaveEnded();
        eachLetterAtEachPlace();
        textWithoutFaultIsLaid();
    }

    private static String zeros(int many) {
        return "0".repeat(many);
    }

    /** A row of n with one + in a column. */
    private static String row(int n, int column) {
        return zeros(column) + "+" + zeros(n - 1 - column);
    }

    /** The first rows of the table that goes from the upper left to the lower right, each with its ; behind it. */
    private static String fallingRows(int n, int rows) {
        StringBuilder found = new StringBuilder();
        for (int at = 0; at < rows; at++) {
            found.append(row(n, at)).append(';');
        }
        return found.toString();
    }

    private static void faultOf(String letters, int want) {
        AlternateSigns x = new AlternateSigns();
        Due.write(x, letters);
        Due.same("fault of " + letters, x.fault(), want);
        Due.same("lay of " + letters, x.lay(), want == NONE ? letters.indexOf(';') : NO);
        Due.table("behind lay of " + letters, x, want == NONE ? letters : NEW_TABLE);
    }

    /** That the last letter is the first fault. */
    private static void lastIsFault(String letters) {
        faultOf(letters, letters.length() - 1);
        faultOf(letters + "0", letters.length() - 1);
    }

    /** That all letters can stand, but rows are missing. */
    private static void standsSoFar(String letters) {
        faultOf(letters, letters.length());
    }

    private static void rowsAndColumnsOfEachSize() {
        Document.onlyTells("What it is", "Tables of alternating signs: a square of +, - and 0 told row by row with the"
            + " first fault; sums over corners, heights, places where a height can be flipped; how many flips two tables"
            + " are apart, the next one on the way, the lowest above and the highest below both; lines that go through"
            + " all places, the ends around, which ends they join; all heights of one colour toggled, then of the other,"
            + " again and again, and behind how many such turns a table comes back; all tables of a size in order, which"
            + " is which, how many there are by the column of the first 1, how many join their ends alike; turned,"
            + " mirrored, undone. ======== 1");
        Document.says("What it is", "A TABLE has N rows and columns (N 1 to 6), rows 0 to N - 1 from above, columns"
            + " 0 to N - 1 from the left, in each place a SIGN:");
        for (int n = 1; n <= 6; n++) {
            for (int column = 0; column < n; column++) {
                // The + of row 0 in each column, the other rows falling around it.
                StringBuilder text = new StringBuilder(row(n, column)).append(';');
                for (int r = 1; r < n; r++) {
                    text.append(row(n, r <= column ? r - 1 : r)).append(';');
                }
                AlternateSigns x = Due.laid(text.toString());
                Due.same("N", x.count(0), n);
                for (int c = 0; c < n; c++) {
                    Due.same("row 0 is above", x.sign(0, c), c == column ? 101 : 100);
                    int lowest = n == 1 || column < n - 1 ? n - 1 : n - 2;
                    Due.same("row N - 1 is below", x.sign(n - 1, c), c == lowest ? 101 : 100);
                    Due.same("no row -1", x.sign(-1, c), BAD);
                    Due.same("no row N", x.sign(n, c), BAD);
                    Due.same("no column -1", x.sign(c, -1), BAD);
                    Due.same("no column N", x.sign(c, n), BAD);
                }
            }
        }
        faultOf("000000+;", 6);
        Due.same("no N 0", new AlternateSigns().take(0, 0), BAD);
        Due.same("no N 7", new AlternateSigns().take(7, 0), BAD);
    }

    private static void atMost512Calls() {
        Document.says("What it is", "An object is used for at most 512 calls after it has been made; what later calls"
            + " answer is free.");
        AlternateSigns flipped = new AlternateSigns();
        AlternateSigns taken = new AlternateSigns();
        AlternateSigns kept = new AlternateSigns();
        AlternateSigns written = new AlternateSigns();
        AlternateSigns gyrated = new AlternateSigns();
        for (int call = 1; call <= MOST_CALLS; call++) {
            Due.same("call " + call + ", flip", flipped.flip(1, 1), call % 2 == 1 ? 0 : 2);
            Due.same("call " + call + ", take", taken.take(1 + call % 6, 0), 1 + call % 6);
            Due.same("call " + call + ", keep", kept.keep(), 3);
            int place = call % 201;
            Due.same("call " + call + ", write", place == 0 ? written.wipe() : written.write('0'), place == 0 ? 200 : place);
            Due.same("call " + call + ", gyrate", gyrated.gyrate(1), call % 3 == 1 ? 2 : call % 3 == 2 ? 4 : 2);
        }
        for (int last = MOST_CALLS - 8; last <= MOST_CALLS; last++) {
            AlternateSigns x = new AlternateSigns();
            for (int call = 1; call < last; call++) {
                x.turn(1 + call % 6);
            }
            Due.same("call " + last + ", undo", x.undo(), 5);
        }
    }

    private static void signsAre1And0AndLess1() {
        Document.says(TERMS, "1, 0 or -1.");
        for (int n = 1; n <= 6; n++) {
            boolean[] seen = new boolean[3];
            for (int rank : ranks(n, 1000)) {
                AlternateSigns x = Due.taken(n, rank);
                for (int at = 0; at < n * n; at++) {
                    int sign = x.sign(at / n, at % n) - 100;
                    Due.holds("1, 0 or -1" + of(n, rank), sign >= -1 && sign <= 1);
                    seen[Math.max(-1, Math.min(1, sign)) + 1] = true;
                }
            }
            Due.holds("a -1 from N 3 on", seen[0] == n >= 3);
            Due.holds("a 0 from N 2 on", seen[1] == n >= 2);
            Due.holds("a 1", seen[2]);
        }
    }

    /** Whether the signs of a row or column are those of the sentence. */
    private static boolean takesTurns(int[] signs) {
        int due = 1;
        for (int sign : signs) {
            if (sign != 0 && sign != due) {
                return false;
            }
            due = sign == 0 ? due : -sign;
        }
        return due == -1;
    }

    private static boolean isTable(int[][] signs) {
        int n = signs.length;
        for (int at = 0; at < n; at++) {
            int[] column = new int[n];
            for (int row = 0; row < n; row++) {
                column[row] = signs[row][at];
            }
            if (!takesTurns(signs[at]) || !takesTurns(column)) {
                return false;
            }
        }
        return true;
    }

    private static int[][] signsOf(AlternateSigns x) {
        int n = x.count(0);
        int[][] signs = new int[n][n];
        for (int at = 0; at < n * n; at++) {
            signs[at / n][at % n] = x.sign(at / n, at % n) - 100;
        }
        return signs;
    }

    private static void signsTakeTurns() {
        Document.says(TERMS, "In each row and each column the SIGNS that are not 0 are 1, -1, 1, .. , 1 in turn, the first"
            + " and the last 1 (so each has at least one): from above, from the left, sums so far are 0 or 1, all together"
            + " 1.");
        for (int n = 1; n <= 6; n++) {
            int last = MANY[n - 1] - 1;
            for (int rank : ranks(n, 800)) {
                AlternateSigns x = Due.taken(n, last - rank);
                x.keep();
                x.take(n, rank);
                Due.holds("a table taken" + of(n, rank), isTable(signsOf(x)));
                x.gyrate(1);
                Due.holds("a table gyrated" + of(n, rank), isTable(signsOf(x)));
                x.both(0);
                Due.holds("a table, lower" + of(n, rank), isTable(signsOf(x)));
                x.undo();
                x.both(1);
                Due.holds("a table, upper" + of(n, rank), isTable(signsOf(x)));
                x.turn(1 + rank % 6);
                Due.holds("a table turned" + of(n, rank), isTable(signsOf(x)));
                x.undo();
                Due.holds("a table undone" + of(n, rank), isTable(signsOf(x)));
            }
        }
    }

    private static void noOtherSquareIsATable() {
        Document.says(TERMS, "(so each has at least one): from above, from the left, sums so far are 0 or 1, all together"
            + " 1.");
        for (int n = 1; n <= 3; n++) {
            int found = 0;
            int squares = (int) Math.pow(3, n * n);
            for (int number = 0; number < squares; number++) {
                int[][] signs = new int[n][n];
                int left = number;
                for (int at = 0; at < n * n; at++) {
                    signs[at / n][at % n] = left % 3 - 1;
                    left /= 3;
                }
                AlternateSigns x = new AlternateSigns();
                Standing.write(x, Oracle.letters(signs));
                found += isTable(signs) ? 1 : 0;
                Due.same("lay " + Oracle.letters(signs), x.lay(), isTable(signs) ? n : NO);
                Due.holds("fault of " + Oracle.letters(signs), (x.fault() == NONE) == isTable(signs));
            }
            Due.same("tables of N " + n, found, MANY[n - 1]);
        }
    }

    private static void lettersAre200AtMost() {
        Document.says(TERMS, "THE TEXT is letters (200 at most):");
        for (char letter : new char[] {'0', '+', ';', 'x', ' ', '~'}) {
            AlternateSigns x = new AlternateSigns();
            for (int length = 1; length <= 200; length++) {
                Due.same("write " + letter, x.write(letter), length);
            }
            Due.same("count 6", x.count(6), 200);
            Due.same("letter 201, " + letter, x.write(letter), FULL);
            Due.same("count 6", x.count(6), 200);
        }
        AlternateSigns x = new AlternateSigns();
        Standing.write(x, "0+;+0;" + "0".repeat(194));
        Due.same("fault in 200 letters", x.fault(), 6);
        Due.same("lay of 200 letters", x.lay(), NO);
    }

    private static void rowsOneBehindTheOther() {
        Document.says(TERMS, "rows one behind the other, each N of the letters + (1), - (-1), 0 (0), and a ; behind it.");
        for (int n = 1; n <= 6; n++) {
            for (int rank : ranks(n, 100)) {
                int[][] signs = table(n, rank);
                AlternateSigns x = Due.laid(letters(n, rank));
                for (int at = 0; at < n * n; at++) {
                    Due.same("sign " + at / n + " " + at % n + of(n, rank), x.sign(at / n, at % n),
                        100 + signs[at / n][at % n]);
                }
            }
        }
    }

    private static void firstRowTellsN() {
        Document.says(TERMS, "N is how many letters the first row has.");
        for (int n = 1; n <= 6; n++) {
            for (int column = 0; column < n; column++) {
                String first = row(n, column) + ";";
                faultOf(first, n == 1 ? NONE : n + 1);
                if (n > 1) {
                    String second = row(n, column == 0 ? 1 : 0);
                    standsSoFar(first + second);
                    faultOf(first + second + ";", n == 2 ? NONE : 2 * n + 2);
                }
            }
            faultOf(fallingRows(n, n), NONE);
        }
    }

    private static void firstWrongLetterCounts() {
        Document.says(TERMS, "FAULT is the place of the first letter that can not stand there, that is, of the first that is"
            + " one of these:");
        for (int n = 1; n <= 6; n++) {
            String whole = letters(n, MANY[n - 1] / 2);
            for (int first = 0; first < whole.length(); first++) {
                StringBuilder text = new StringBuilder(whole);
                text.setCharAt(first, 'x');
                AlternateSigns x = new AlternateSigns();
                Standing.write(x, text.toString());
                Due.same("fault of " + text, x.fault(), first);
                Standing.write(x, ";;++xx");
                Due.same("fault with more behind it", x.fault(), first);
                Due.same("lay", x.lay(), NO);
                for (int second = first + 1; second < whole.length(); second += 3) {
                    StringBuilder two = new StringBuilder(text).replace(second, second + 1, "y");
                    AlternateSigns y = new AlternateSigns();
                    Standing.write(y, two.toString());
                    Due.same("fault of " + two, y.fault(), first);
                }
            }
        }
        faultOf("++;;", 1);
        faultOf("0;;", 1);
        faultOf("+0;+0;", 3);
        faultOf("+;+;", 2);
    }

    private static void noneOfTheFourLetters() {
        Document.says(TERMS, "none of + - 0 ;");
        for (int letter = 32; letter <= 126; letter++) {
            boolean isOneOfThem = letter == '+' || letter == '-' || letter == '0' || letter == ';';
            if (!isOneOfThem) {
                String wrong = String.valueOf((char) letter);
                lastIsFault(wrong);
                lastIsFault("0" + wrong);
                lastIsFault("0+" + wrong);
                lastIsFault("0+0;" + wrong);
                lastIsFault("0+0;+" + wrong);
                lastIsFault("0+0;+-+" + wrong);
                lastIsFault("0+0;+-+;0+0" + wrong);
            }
        }
        standsSoFar("0");
        standsSoFar("+");
        standsSoFar("0+0;+-");
        standsSoFar("0+0;");
    }

    private static void signBehindSixInTheFirstRow() {
        Document.says(TERMS, "a + - or 0 behind six in the first row,");
        for (char letter : new char[] {'+', '-', '0'}) {
            lastIsFault("000000" + letter);
            for (int column = 0; column < 6; column++) {
                lastIsFault(row(6, column) + letter);
            }
        }
        for (int many = 1; many <= 6; many++) {
            standsSoFar(zeros(many));
            for (int column = 0; column < many; column++) {
                standsSoFar(row(many, column));
                faultOf(row(many, column) + ";", many == 1 ? NONE : many + 1);
            }
        }
    }

    private static void signBehindNInAnotherRow() {
        Document.says(TERMS, "behind N in another one;");
        for (int n = 2; n <= 6; n++) {
            for (int rows = 1; rows < n; rows++) {
                String whole = fallingRows(n, rows) + row(n, rows);
                standsSoFar(whole);
                String empty = fallingRows(n, rows) + zeros(n);
                standsSoFar(empty);
                for (char letter : new char[] {'+', '-', '0'}) {
                    lastIsFault(whole + letter);
                    lastIsFault(empty + letter);
                }
            }
        }
    }

    private static void sumOfTheRowSoFar() {
        Document.says(TERMS, "a + - or 0 by which the sum of its row so far,");
        for (int many = 0; many < 6; many++) {
            lastIsFault(zeros(many) + "-");
            for (int between = 0; many + between < 5; between++) {
                lastIsFault(zeros(many) + "+" + zeros(between) + "+");
                standsSoFar(zeros(many) + "+" + zeros(between) + "0");
            }
        }
        for (int n = 2; n <= 6; n++) {
            for (int full = 0; full < n; full++) {
                String first = row(n, full) + ";";
                standsSoFar(first + zeros(full) + "0");
                // Its column goes from 1 to 0, so that the row alone is wrong.
                lastIsFault(first + zeros(full) + "-");
                for (int one = 0; one < n; one++) {
                    for (int two = one + 1; one != full && two < n; two++) {
                        String half = first + zeros(one) + "+" + zeros(two - one - 1);
                        standsSoFar(half);
                        if (two != full) {
                            // Its column goes from 0 to 1.
                            lastIsFault(half + "+");
                        } else {
                            standsSoFar(half + "-");
                        }
                    }
                }
            }
        }
        lastIsFault("0+000;000+0;+-0-");
        standsSoFar("0+000;000+0;+-+-");
    }

    private static void sumOfTheColumnSoFar() {
        Document.says(TERMS, "or of its column so far, is neither 0 nor 1;");
        for (int n = 2; n <= 6; n++) {
            for (int rows = 1; rows < n; rows++) {
                String above = fallingRows(n, rows);
                for (int column = 0; column < n; column++) {
                    // The row goes from 0 to 1, so that the column alone is wrong.
                    String half = above + zeros(column);
                    standsSoFar(half + "0");
                    if (column < rows) {
                        lastIsFault(half + "+");
                    } else {
                        standsSoFar(half + "+");
                    }
                }
                for (int column = rows + 1; column < n; column++) {
                    // The row goes from 1 to 0.
                    String half = above + zeros(rows) + "+" + zeros(column - rows - 1);
                    lastIsFault(half + "-");
                    standsSoFar(half + "0");
                }
            }
        }
        standsSoFar("0+0;+-+;0+");
        standsSoFar("00+0;0+-+;+-+-");
        lastIsFault("0+00;+-+0;+");
        lastIsFault("00+0;+0-+;0+-");
    }

    private static void rowEndsWithNoSign() {
        Document.says(TERMS, "a ; where the row has none (the first),");
        lastIsFault(";");
        faultOf(";;", 0);
        faultOf(";+;", 0);
        faultOf(";0+;+0;", 0);
    }

    private static void rowEndsWithFewerThanN() {
        Document.says(TERMS, "or fewer than N (another one),");
        for (int n = 2; n <= 6; n++) {
            for (int rows = 1; rows < n; rows++) {
                String above = fallingRows(n, rows);
                for (int fewer = 0; fewer < n; fewer++) {
                    lastIsFault(above + zeros(fewer) + ";");
                    if (fewer > rows) {
                        // The sum is 1, so that only letters are missing.
                        lastIsFault(above + row(fewer, rows) + ";");
                    }
                }
            }
        }
        lastIsFault("0+000;+-+;");
    }

    private static void rowEndsWithAnotherSum() {
        Document.says(TERMS, "or where the sum of its row is not 1;");
        for (int n = 1; n <= 6; n++) {
            lastIsFault(zeros(n) + ";");
            for (int rows = 1; rows < n; rows++) {
                lastIsFault(fallingRows(n, rows) + zeros(n) + ";");
                faultOf(fallingRows(n, rows + 1), rows + 1 == n ? NONE : (rows + 1) * (n + 1));
            }
        }
        for (int n = 3; n <= 6; n++) {
            for (int full = 1; full < n; full++) {
                String minus = row(n, full) + ";+" + zeros(full - 1) + "-" + zeros(n - 1 - full);
                lastIsFault(minus + ";");
            }
        }
    }

    private static void anyLetterBehindTheLastRow() {
        Document.says(TERMS, "any letter behind the ; of the N-th row.");
        for (int n = 1; n <= 6; n++) {
            for (int rank : new int[] {0, MANY[n - 1] / 2, MANY[n - 1] - 1}) {
                faultOf(letters(n, rank), NONE);
                for (int letter = 32; letter <= 126; letter++) {
                    lastIsFault(letters(n, rank) + (char) letter);
                }
                faultOf(letters(n, rank) + letters(n, rank), n * (n + 1));
            }
        }
    }

    private static void fewerThanNRowsHaveEnded() {
        Document.says(TERMS, "If there is none, and fewer than N rows have ended (or none), FAULT is the place behind the"
            + " last letter.");
        Due.same("fault of the empty text", new AlternateSigns().fault(), 0);
        for (int n = 1; n <= 6; n++) {
            for (int rank : ranks(n, 100)) {
                String whole = letters(n, rank);
                AlternateSigns x = new AlternateSigns();
                for (int length = 0; length < whole.length(); length++) {
                    Due.same("fault behind " + length + " letters" + of(n, rank), x.fault(), length);
                    Due.same("lay behind " + length + " letters" + of(n, rank), x.lay(), NO);
                    x.write(whole.charAt(length));
                }
                Due.same("fault of the whole" + of(n, rank), x.fault(), NONE);
                x.wipe();
                Due.same("fault of the empty text", x.fault(), 0);
            }
        }
        // No letter is wrong there, although no row can follow.
        standsSoFar("0+;0");
        standsSoFar("0+;00");
    }

    /** Each letter behind each beginning without a wrong one, up to N 4; beyond it one letter in tables. */
    private static void eachLetterAtEachPlace() {
        Document.says(TERMS, "a + - or 0 behind six in the first row, behind N in another one; a + - or 0 by which the sum"
            + " of its row so far, or of its column so far, is neither 0 nor 1; a ; where the row has none (the first), or"
            + " fewer than N (another one), or where the sum of its row is not 1; any letter behind the ; of the N-th"
            + " row.");
        extend("");
        for (int n = 5; n <= 6; n++) {
            for (int rank : ranks(n, 40)) {
                for (int at = 0; at < n * (n + 1); at++) {
                    for (char letter : "+-0;x".toCharArray()) {
                        compare(new StringBuilder(letters(n, rank)).replace(at, at + 1, "" + letter).toString());
                    }
                }
            }
        }
    }

    private static void extend(String begun) {
        for (char letter : "+-0;x".toCharArray()) {
            String text = begun + letter;
            int due = compare(text);
            boolean isSmall = text.indexOf(';') <= 4;
            if (due != begun.length() && isSmall) {
                extend(text);
            }
        }
    }

    private static int compare(String text) {
        AlternateSigns x = new AlternateSigns();
        Oracle oracle = new Oracle();
        Standing.write(x, text);
        for (int at = 0; at < text.length(); at++) {
            oracle.write(text.charAt(at));
        }
        int due = oracle.fault();
        Due.same("fault of " + text, x.fault(), due);
        return due;
    }

    private static void textWithoutFaultIsLaid() {
        Document.says(TERMS, "LAID is a TEXT without FAULT as THE TABLE (at first 0+0;+-+;0+0;).");
        Due.table("at first", new AlternateSigns(), NEW_TABLE);
        for (int n = 1; n <= 6; n++) {
            for (int rank : ranks(n, 100)) {
                AlternateSigns x = Due.laid(letters(n, rank));
                isTable("laid", x, n, rank);
            }
        }
    }
}
