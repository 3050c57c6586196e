/** Promises 21 to 24: across, down, partner, line; with the edges and rings of count. */
public final class LinesTest {
    private static final int BAD = -1;

    public static void main(String[] args) {
        edges();
        edgesWrong();
        partners();
        partnersWrong();
        everyTable();
        gyrationTurnsPartners();
        Due.end();
    }

    private static void edges() {
        // The picture of 0+00;000+;+000;00+0; has a ring in its middle and a line at each side.
        AlternateSigns x = Due.laid("0+00;000+;+000;00+0;");
        String[] across = {"01101", "10100", "00101", "10110"};
        String[] down = {"1010", "0001", "1111", "1000", "0101"};
        for (int r = 1; r <= 4; r++) {
            for (int c = 0; c <= 4; c++) {
                Due.same("across " + r + " " + c, x.across(r, c), across[r - 1].charAt(c) - '0');
            }
        }
        for (int r = 0; r <= 4; r++) {
            for (int c = 1; c <= 4; c++) {
                Due.same("down " + r + " " + c, x.down(r, c), down[r].charAt(c - 1) - '0');
            }
        }
        Due.same("ring edges", x.count(10), 4);
        Due.same("rings", x.count(11), 1);
        AlternateSigns one = Due.taken(1, 0);
        Due.same("across 1 0", one.across(1, 0), 0);
        Due.same("across 1 1", one.across(1, 1), 0);
        Due.same("down 0 1", one.down(0, 1), 1);
        Due.same("down 1 1", one.down(1, 1), 1);
    }

    private static void edgesWrong() {
        AlternateSigns x = new AlternateSigns();
        for (int r : new int[] {Integer.MIN_VALUE, -1, 0, 4, 7, Integer.MAX_VALUE}) {
            Due.same("across " + r, x.across(r, 1), BAD);
            Due.same("down column " + r, x.down(1, r), BAD);
        }
        for (int c : new int[] {Integer.MIN_VALUE, -1, 4, 7, Integer.MAX_VALUE}) {
            Due.same("across column " + c, x.across(1, c), BAD);
            Due.same("down " + c, x.down(c, 1), BAD);
        }
        Due.holds("across from 1 0 to N N", x.across(1, 0) >= 0 && x.across(3, 3) >= 0);
        Due.holds("down from 0 1 to N N", x.down(0, 1) >= 0 && x.down(3, 3) >= 0);
    }

    private static void joined(String letters, String partners, String lengths) {
        AlternateSigns x = Due.laid(letters);
        for (int end = 0; end < partners.length(); end++) {
            Due.same("partner " + end + " of " + letters, x.partner(end), Character.digit(partners.charAt(end), 16));
            Due.same("line " + end + " of " + letters, x.line(end), Character.digit(lengths.charAt(end), 16));
        }
    }

    private static void partners() {
        joined("+;", "10", "22");
        joined("+0;0+;", "3210", "3333");
        joined("0+;+0;", "1032", "3333");
        joined("0+0;+-+;0+0;", "105432", "444444");
        joined("0+00;000+;+000;00+0;", "10325476", "44444444");
    }

    private static void partnersWrong() {
        AlternateSigns x = new AlternateSigns();
        for (int end : new int[] {Integer.MIN_VALUE, -1, 6, 7, 12, Integer.MAX_VALUE}) {
            Due.same("partner " + end, x.partner(end), BAD);
            Due.same("line " + end, x.line(end), BAD);
        }
        x.take(6, 0);
        Due.holds("the last of six", x.partner(11) >= 0 && x.line(11) >= 2);
        Due.same("partner 12", x.partner(12), BAD);
        Due.same("line 12", x.line(12), BAD);
        x.take(1, 0);
        Due.same("partner 2", x.partner(2), BAD);
        Due.same("line 2", x.line(2), BAD);
    }

    /** Partners are each other's and do not cross; what is on no line is on rings. */
    private static void everyTable() {
        for (int n = 1; n <= 6; n++) {
            int many = new AlternateSigns().many(n, -1);
            for (int rank = 0; rank < many; rank++) {
                checkLines(Due.taken(n, rank), n, "rank " + rank + " of " + n);
            }
        }
    }

    private static void checkLines(AlternateSigns x, int n, String which) {
        int onLines = 0;
        for (int end = 0; end < 2 * n; end++) {
            int partner = x.partner(end);
            Due.same(which + ", back from " + end, x.partner(partner), end);
            Due.holds(which + ", an even one and an uneven one", (end + partner) % 2 == 1);
            Due.same(which + ", as long from both", x.line(partner), x.line(end));
            onLines += end < partner ? x.line(end) : 0;
        }
        Due.same(which + ", drawn", x.count(9), n * n + n);
        Due.same(which + ", on rings", x.count(10), n * n + n - onLines);
        Due.holds(which + ", four edges a ring", x.count(10) >= 4 * x.count(11));
        Due.holds(which + ", a ring if edges", (x.count(10) > 0) == (x.count(11) > 0));
    }

    /** Wieland: by a gyration all partners go back by one END, so that as many have the new ones. */
    private static void gyrationTurnsPartners() {
        for (int n = 1; n <= 5; n++) {
            int many = new AlternateSigns().many(n, -1);
            for (int rank = 0; rank < many; rank++) {
                gyrateOnce(Due.taken(n, rank), n, "rank " + rank + " of " + n);
            }
        }
    }

    private static void gyrateOnce(AlternateSigns x, int n, String which) {
        int ends = 2 * n;
        int back = ends - 1;
        int alike = x.alike();
        int[] before = new int[ends];
        for (int end = 0; end < ends; end++) {
            before[end] = x.partner(end);
        }
        x.gyrate(1);
        for (int end = 0; end < ends; end++) {
            Due.same("partners of " + which, x.partner((end + back) % ends), (before[end] + back) % ends);
        }
        Due.same("as many as " + which, x.alike(), alike);
    }
}
