/** What tests share: answers that are not as due are printed and counted, and tables are told. */
final class Due {
    /** Behind so many no more is asked: a program so wrong may not end. */
    private static final int MOST_WRONG = 100;

    private static int wrong;
    private static int asked;
    private static String about = "";

    private Due() {
    }

    /** What is printed ahead of each answer that is not as due, until the next words. */
    static void about(String words) {
        about = words;
    }

    static int asked() {
        return asked;
    }

    static void same(String call, long got, long want) {
        asked++;
        if (got != want) {
            isWrong(call + " answered " + got + ", due is " + want);
        }
    }

    static void same(String what, String got, String want) {
        asked++;
        if (!got.equals(want)) {
            isWrong(what + " is " + got + ", due is " + want);
        }
    }

    static void holds(String what, boolean isSo) {
        asked++;
        if (!isSo) {
            isWrong("not so: " + what);
        }
    }

    private static void isWrong(String answer) {
        wrong++;
        System.out.println(about + answer);
        if (wrong >= MOST_WRONG) {
            System.out.println("the rest is not asked");
            end();
        }
    }

    static void write(AlternateSigns x, String letters) {
        x.wipe();
        for (int at = 0; at < letters.length(); at++) {
            same("write " + letters + " at " + at, x.write(letters.charAt(at)), at + 1);
        }
    }

    static AlternateSigns laid(String letters) {
        AlternateSigns x = new AlternateSigns();
        lay(x, letters);
        return x;
    }

    static void lay(AlternateSigns x, String letters) {
        write(x, letters);
        same("lay " + letters, x.lay(), letters.indexOf(';'));
    }

    static AlternateSigns taken(int n, int rank) {
        AlternateSigns x = new AlternateSigns();
        same("take " + n + " " + rank, x.take(n, rank), n);
        return x;
    }

    /** THE TABLE in the letters of THE TEXT; another letter where a place is none. */
    static String letters(AlternateSigns x) {
        StringBuilder text = new StringBuilder();
        int n = x.count(0);
        for (int row = 0; row < n; row++) {
            for (int column = 0; column < n; column++) {
                int sign = x.sign(row, column) - 99;
                text.append(sign < 0 || sign > 2 ? '?' : "-0+".charAt(sign));
            }
            text.append(';');
        }
        return text.toString();
    }

    static void table(String when, AlternateSigns x, String want) {
        same(when + ": the table", letters(x), want);
    }

    static void end() {
        System.out.println(asked + " answers, " + wrong + " not as due");
        if (wrong != 0) {
            System.exit(1);
        }
    }
}
