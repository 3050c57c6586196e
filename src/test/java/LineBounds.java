/** Sentences of promises 21 to 24: across, down, partner, line. */
final class LineBounds extends Bounds {
    private LineBounds() {
    }

    static void all() {
        across();
        acrossBad();
        down();
        downBad();
        partner();
        partnerBad();
        line();
        lineBad();
    }

    private static void across() {
        Document.says("Promise 21", "Whether an EDGE of a row is DRAWN (r 1 to N, c 0 to N): 1, 0.");
        for (int n = 1; n <= 6; n++) {
            for (Standing standing : Standing.ofSize(n)) {
                AlternateSigns x = standing.made();
                int[][] signs = table(n, x.rank());
                for (int r = 1; r <= n; r++) {
                    int sum = 0;
                    for (int c = 0; c <= n; c++) {
                        sum += c == 0 ? 0 : signs[r - 1][c - 1];
                        Due.same("across " + r + " " + c + ", " + standing.name, x.across(r, c), 1 - (sum + r + c) % 2);
                    }
                }
            }
        }
    }

    private static void acrossBad() {
        Document.says("Promise 21", "BAD.");
        for (int n = 1; n <= 6; n++) {
            for (int r : beyond(1, n)) {
                for (int c = -1; c <= n + 1; c++) {
                    int other = c;
                    isRefusedOf(n, "across " + r + " " + c, x -> x.across(r, other), BAD);
                }
            }
            for (int c : beyond(0, n)) {
                for (int r = 0; r <= n + 1; r++) {
                    int other = r;
                    isRefusedOf(n, "across " + r + " " + c, x -> x.across(other, c), BAD);
                }
            }
        }
    }

    private static void down() {
        Document.says("Promise 22", "Whether an EDGE of a column is DRAWN (r 0 to N, c 1 to N): 1, 0.");
        for (int n = 1; n <= 6; n++) {
            for (Standing standing : Standing.ofSize(n)) {
                AlternateSigns x = standing.made();
                int[][] signs = table(n, x.rank());
                for (int c = 1; c <= n; c++) {
                    int sum = 0;
                    for (int r = 0; r <= n; r++) {
                        sum += r == 0 ? 0 : signs[r - 1][c - 1];
                        Due.same("down " + r + " " + c + ", " + standing.name, x.down(r, c), (sum + r + c) % 2);
                    }
                }
            }
        }
    }

    private static void downBad() {
        Document.says("Promise 22", "BAD.");
        for (int n = 1; n <= 6; n++) {
            for (int r : beyond(0, n)) {
                for (int c = 0; c <= n + 1; c++) {
                    int other = c;
                    isRefusedOf(n, "down " + r + " " + c, x -> x.down(r, other), BAD);
                }
            }
            for (int c : beyond(1, n)) {
                for (int r = -1; r <= n + 1; r++) {
                    int other = r;
                    isRefusedOf(n, "down " + r + " " + c, x -> x.down(other, c), BAD);
                }
            }
        }
    }

    private static void partner() {
        Document.says("Promise 23", "PARTNER of an END.");
        for (int n = 1; n <= 6; n++) {
            // In the first table lines lie round the upper left corner, the longest between the two others.
            AlternateSigns first = Due.taken(n, 0);
            for (int end = 0; end < 2 * n; end++) {
                Due.same("partner " + end + of(n, 0), first.partner(end), 2 * n - 1 - end);
            }
            for (int rank : ranks(n, 500)) {
                AlternateSigns x = Due.taken(n, rank);
                for (int end = 0; end < 2 * n; end++) {
                    int partner = x.partner(end);
                    Due.same("partner " + end + of(n, rank), partner, Oracle.partners(table(n, rank)).get(end));
                    Due.holds("another END", partner != end && partner >= 0 && partner < 2 * n);
                    Due.same("the partner's partner", x.partner(partner), end);
                }
            }
        }
    }

    private static void partnerBad() {
        Document.says("Promise 23", "BAD.");
        for (int n = 1; n <= 6; n++) {
            for (int end : beyond(0, 2 * n - 1)) {
                isRefusedOf(n, "partner " + end, x -> x.partner(end), BAD);
            }
        }
    }

    private static void line() {
        Document.says("Promise 24", "How many DRAWN EDGES the LINE from an END has, those of both ENDS, too.");
        Due.same("of N 1 both are of ENDS", Due.taken(1, 0).line(0), 2);
        Due.same("of N 1 both are of ENDS", Due.taken(1, 0).line(1), 2);
        for (int end = 0; end < 4; end++) {
            Due.same("of N 2 one is of no END", Due.taken(2, 0).line(end), 3);
        }
        for (int n = 1; n <= 6; n++) {
            for (int rank : ranks(n, 300)) {
                AlternateSigns x = Due.taken(n, rank);
                int sum = 0;
                for (int end = 0; end < 2 * n; end++) {
                    int edges = x.line(end);
                    Due.same("line " + end + of(n, rank), edges, Oracle.lineSize(table(n, rank), end));
                    Due.same("from both ENDS", x.line(x.partner(end)), edges);
                    sum += edges;
                }
                Due.same("all but those of rings" + of(n, rank), sum / 2, n * n + n - x.count(10));
            }
        }
    }

    private static void lineBad() {
        Document.says("Promise 24", "BAD.");
        for (int n = 1; n <= 6; n++) {
            for (int end : beyond(0, 2 * n - 1)) {
                isRefusedOf(n, "line " + end, x -> x.line(end), BAD);
            }
        }
    }
}
