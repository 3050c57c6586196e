import java.util.Arrays;
import java.util.HashMap;
import java.util.Map;

/**
 * What others have proved or counted of such tables. The oracle is by the same hand as the class;
 * these laws and numbers are not, so that a misreading shared by both would be seen here.
 */
public final class TheoremsTest {
    private static final int[] MANY = {1, 2, 7, 42, 429, 7436};

    public static void main(String[] args) {
        for (int n = 1; n <= 6; n++) {
            all(n);
            signsAndInversions(n);
            symmetric(n);
            onlyOneWayOn(n);
            lowerAndUpper(n);
            razumovStroganov(n);
        }
        Due.end();
    }

    /** Mills, Robbins, Rumsey; Zeilberger; Kuperberg: the product of (3 k + 1)! / (n + k)!. */
    private static void all(int n) {
        double product = 1;
        for (int k = 0; k < n; k++) {
            product *= factorial(3 * k + 1) / factorial(n + k);
        }
        Due.same("tables of " + n, new AlternateSigns().many(n, -1), Math.round(product));
        int permutations = 0;
        for (int rank = 0; rank < MANY[n - 1]; rank++) {
            permutations += Due.taken(n, rank).count(8);
        }
        Due.same("permutations of " + n, permutations, Math.round(factorial(n)));
    }

    private static double factorial(int number) {
        return number < 2 ? 1 : number * factorial(number - 1);
    }

    /**
     * Robbins and Rumsey: x to the INVERSIONS times (1 + 1/x) to the SIGNS that are -1, over all
     * tables, is (1 + x) to the pairs of rows. Compared power by power.
     */
    private static void signsAndInversions(int n) {
        int pairs = n * (n - 1) / 2;
        long[] sum = new long[pairs + 1];
        for (int rank = 0; rank < MANY[n - 1]; rank++) {
            AlternateSigns x = Due.taken(n, rank);
            int negatives = x.count(1);
            int lowest = x.count(3) - negatives;
            Due.holds("powers of rank " + rank + " of " + n, lowest >= 0 && lowest + negatives <= pairs);
            for (int power = 0; power <= negatives; power++) {
                sum[lowest + power] += binomial(negatives, power);
            }
        }
        for (int power = 0; power <= pairs; power++) {
            Due.same("power " + power + " of " + n, sum[power], binomial(pairs, power));
        }
        // The sum is the same for the mirrored tables: which end has none of them is asked here.
        Due.same("inversions of the first of " + n, Due.taken(n, 0).count(3), 0);
        Due.same("inversions of the last of " + n, Due.taken(n, MANY[n - 1] - 1).count(3), pairs);
    }

    private static long binomial(int of, int some) {
        return some == 0 ? 1 : binomial(of, some - 1) * (of - some + 1) / some;
    }

    /** Robbins; Kuperberg; Razumov and Stroganov: tables that are as they were when turned by k. */
    private static void symmetric(int n) {
        int[] quarter = {1, 0, 1, 2, 3, 0};
        int[] half = {1, 2, 3, 10, 25, 140};
        int[] mirrored = {1, 0, 1, 0, 3, 0};
        int[] crossed = {1, 2, 5, 16, 67, 368};
        int[][] due = {quarter, half, quarter, mirrored, mirrored, crossed};
        for (int k = 1; k <= 6; k++) {
            int same = 0;
            for (int rank = 0; rank < MANY[n - 1]; rank++) {
                same += Due.taken(n, rank).turn(k) == 0 ? 1 : 0;
            }
            Due.same("as they were, turned by " + k + ", of " + n, same, due[k - 1][n - 1]);
        }
    }

    /**
     * Lascoux and Schuetzenberger: (n + 1) n (n - 1) / 6 tables can be flipped downwards in just one
     * place, as many upwards; and one in none: the lowest, the highest.
     */
    private static void onlyOneWayOn(int n) {
        int[][] found = new int[3][2];
        for (int rank = 0; rank < MANY[n - 1]; rank++) {
            int[] kinds = kinds(Due.taken(n, rank), n);
            for (int kind = 1; kind <= 2; kind++) {
                if (kinds[kind] < 2) {
                    found[kind][kinds[kind]]++;
                }
            }
        }
        for (int kind = 1; kind <= 2; kind++) {
            Due.same("no flip of kind " + kind + " of " + n, found[kind][0], 1);
            Due.same("one flip of kind " + kind + " of " + n, found[kind][1], (n + 1) * n * (n - 1) / 6);
        }
        Due.same("none upwards of " + n, kinds(Due.taken(n, MANY[n - 1] - 1), n)[1], 0);
        Due.same("none downwards of " + n, kinds(Due.taken(n, 0), n)[2], 0);
    }

    private static int[] kinds(AlternateSigns x, int n) {
        int[] kinds = new int[3];
        for (int i = 1; i < n; i++) {
            for (int j = 1; j < n; j++) {
                kinds[Math.max(0, x.may(i, j))]++;
            }
        }
        Due.same("flips of " + n, x.count(2), kinds[1] + kinds[2]);
        return kinds;
    }

    /**
     * Elkies, Kuperberg, Larsen, Propp: tables are a distributive lattice whose steps are flips. So
     * two are as far apart as the lower and the upper of both, and each lies between these.
     */
    private static void lowerAndUpper(int n) {
        int step = Math.max(1, MANY[n - 1] / 60);
        for (int one = 0; one < MANY[n - 1]; one += step) {
            for (int two = 0; two < MANY[n - 1]; two += step) {
                pair(n, one, two);
            }
        }
    }

    private static void pair(int n, int one, int two) {
        String which = one + " and " + two + " of " + n;
        AlternateSigns x = Due.taken(n, one);
        int ofOne = x.count(4);
        x.keep();
        x.take(n, two);
        int ofTwo = x.count(4);
        int apart = x.apart();
        x.both(0);
        int lower = x.count(4);
        Due.same("one above the lower of " + which, ofOne - lower, 2 * x.apart());
        x.undo();
        x.both(1);
        int upper = x.count(4);
        Due.same("one below the upper of " + which, upper - ofOne, 2 * x.apart());
        Due.same("lower and upper of " + which, lower + upper, ofOne + ofTwo);
        Due.same("as far apart as " + which, upper - lower, 2 * apart);
    }

    /**
     * Razumov and Stroganov; Cantini and Sportiello: let each way to join ENDS weigh as many tables
     * as have it. Joining two neighbours and their partners, for all 2 N neighbours, takes the
     * weights of all ways to 2 N times what they were.
     */
    private static void razumovStroganov(int n) {
        int ends = 2 * n;
        Map<String, int[]> ways = new HashMap<>();
        Map<String, Integer> weights = new HashMap<>();
        for (int rank = 0; rank < MANY[n - 1]; rank++) {
            int[] partners = partners(Due.taken(n, rank), ends);
            ways.put(Arrays.toString(partners), partners);
            weights.merge(Arrays.toString(partners), 1, Integer::sum);
        }
        int[] catalan = {1, 2, 5, 14, 42, 132};
        Due.same("ways of " + n, ways.size(), catalan[n - 1]);
        Map<String, Integer> joined = new HashMap<>();
        for (Map.Entry<String, int[]> way : ways.entrySet()) {
            for (int end = 0; end < ends; end++) {
                String then = Arrays.toString(joinedAt(way.getValue(), end));
                joined.merge(then, weights.get(way.getKey()), Integer::sum);
            }
        }
        for (String way : ways.keySet()) {
            Due.same("weight of " + way, joined.getOrDefault(way, 0), ends * weights.get(way));
        }
        if (n < 6) {
            weightsAreAlike(n, weights);
        }
    }

    private static int[] partners(AlternateSigns x, int ends) {
        int[] partners = new int[ends];
        for (int end = 0; end < ends; end++) {
            partners[end] = x.partner(end);
        }
        return partners;
    }

    private static int[] joinedAt(int[] partners, int end) {
        int beside = (end + 1) % partners.length;
        int[] then = partners.clone();
        if (partners[end] != beside) {
            then[partners[end]] = partners[beside];
            then[partners[beside]] = partners[end];
            then[end] = beside;
            then[beside] = end;
        }
        return then;
    }

    private static void weightsAreAlike(int n, Map<String, Integer> weights) {
        for (int rank = 0; rank < MANY[n - 1]; rank += Math.max(1, MANY[n - 1] / 60)) {
            AlternateSigns x = Due.taken(n, rank);
            String way = Arrays.toString(partners(x, 2 * n));
            Due.same("alike of rank " + rank + " of " + n, x.alike(), weights.get(way));
        }
        AlternateSigns x = new AlternateSigns();
        int[] counted = new int[weights.size()];
        for (int which = 0; which < counted.length; which++) {
            counted[which] = x.ways(n, which);
        }
        Arrays.sort(counted);
        int[] due = weights.values().stream().mapToInt(Integer::intValue).sorted().toArray();
        Due.same("weights of " + n, Arrays.toString(counted), Arrays.toString(due));
    }
}
