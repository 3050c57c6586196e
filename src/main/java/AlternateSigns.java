/**
 * Tables of alternating signs. The document (../shared/DOC.md) says what each call answers; its
 * words are used here as it uses them.
 *
 * <p>A table is held by its CORNERS: a HEIGHT, a SIGN and the sum ahead of an EDGE are differences
 * of them, and a flip changes just one of them.
 */
public final class AlternateSigns {
    public static final int BAD = -1, NO = -2, FULL = -3, NONE = -4, ZERO = 100;

    private static final int LARGEST = 6;
    private static final int STRIDE = LARGEST + 1;
    private static final int MOST_LETTERS = 200;
    private static final int FIRST_LETTER = 32;
    private static final int LAST_LETTER = 126;
    private static final int MOST_UNDONE = 6;
    private static final int MOST_GYRATIONS = 100;
    /** Gyrations permute the tables of a size, so that no orbit is longer than the tables of six are many. */
    private static final int LONGEST_ORBIT = 7436;
    private static final int LARGEST_JOINED = 5;
    /** So many ways there are to join ten ends by lines that do not cross. */
    private static final int MOST_WAYS = 42;
    private static final String TABLE_AT_FIRST = "0+0;+-+;0+0;";

    private static final int MORE = 1;
    private static final int LESS = 2;

    private static final int ABOVE = 0;
    private static final int RIGHT = 1;
    private static final int BELOW = 2;
    private static final int LEFT = 3;
    private static final int SIDES = 4;

    private final Text text = new Text();
    private final Table table = new Table();
    /** Of size 0 as long as none is KEPT. */
    private final Table other = new Table();
    private final Table spare = new Table();
    private final Past past = new Past();
    private final Lines lines = new Lines();
    private final AllOfSize[] sizes = new AllOfSize[LARGEST];

    public AlternateSigns() {
        for (int n = 1; n <= LARGEST; n++) {
            sizes[n - 1] = new AllOfSize(n);
        }
        for (int at = 0; at < TABLE_AT_FIRST.length(); at++) {
            text.add(TABLE_AT_FIRST.charAt(at));
        }
        text.firstFault();
        table.copy(text.draft);
        text.length = 0;
    }

    // ---- told

    public int write(int letter) {
        if (letter < FIRST_LETTER || letter > LAST_LETTER) {
            return BAD;
        }
        if (text.length >= MOST_LETTERS) {
            return FULL;
        }
        text.add((char) letter);
        return text.length;
    }

    public int wipe() {
        int was = text.length;
        text.length = 0;
        return was;
    }

    public int fault() {
        return text.firstFault();
    }

    public int lay() {
        if (text.firstFault() != NONE) {
            return NO;
        }
        table.copy(text.draft);
        past.forget();
        return table.size;
    }

    public int take(int n, int rank) {
        if (!isSize(n)) {
            return BAD;
        }
        AllOfSize all = sizes[n - 1];
        if (rank < 0 || rank >= all.total()) {
            return NONE;
        }
        past.remember(table);
        all.put(rank, table);
        return n;
    }

    public int undo() {
        if (past.held == 0) {
            return NO;
        }
        past.giveBack(table);
        return past.held;
    }

    public int keep() {
        other.copy(table);
        return other.size;
    }

    // ---- looked at

    public int sign(int row, int column) {
        if (!isBetween(row, 0, table.size - 1) || !isBetween(column, 0, table.size - 1)) {
            return BAD;
        }
        return ZERO + table.signAt(row, column);
    }

    public int corner(int i, int j) {
        return isCorner(i, j) ? table.cornerAt(i, j) : BAD;
    }

    public int height(int i, int j) {
        return isCorner(i, j) ? table.heightAt(i, j) : BAD;
    }

    public int may(int i, int j) {
        return isInner(i, j) ? table.flipKind(i, j) : BAD;
    }

    public int count(int what) {
        switch (what) {
            case 0:
                return table.size;
            case 1:
                return table.negatives();
            case 2:
                return table.flippable();
            case 3:
                return table.inversions();
            case 4:
                return table.heightsTogether();
            case 5:
                return past.held;
            case 6:
                return text.length;
            case 7:
                return other.size;
            case 8:
                return table.negatives() == 0 ? 1 : 0;
            case 9:
                return table.drawnEdges();
            case 10:
                lines.trace(table);
                return lines.ringEdges;
            case 11:
                lines.trace(table);
                return lines.rings;
            default:
                return BAD;
        }
    }

    // ---- flips

    public int flip(int i, int j) {
        if (!isInner(i, j)) {
            return BAD;
        }
        if (table.flipKind(i, j) == 0) {
            return NO;
        }
        past.remember(table);
        table.flipAt(i, j);
        return table.heightAt(i, j);
    }

    public int gyrate(int n) {
        if (!isBetween(n, 1, MOST_GYRATIONS)) {
            return BAD;
        }
        past.remember(table);
        int flips = 0;
        for (int time = 0; time < n; time++) {
            flips += table.gyrateOnce();
        }
        return flips;
    }

    public int orbit() {
        spare.copy(table);
        for (int times = 1; times < LONGEST_ORBIT; times++) {
            spare.gyrateOnce();
            if (spare.distance(table) == 0) {
                return times;
            }
        }
        return LONGEST_ORBIT;
    }

    public int apart() {
        return hasLikeOther() ? table.distance(other) : NO;
    }

    public int next() {
        if (!hasLikeOther()) {
            return NO;
        }
        for (int i = 1; i < table.size; i++) {
            for (int j = 1; j < table.size; j++) {
                if (table.comesNearer(i, j, other)) {
                    return 10 * i + j;
                }
            }
        }
        return NONE;
    }

    public int both(int which) {
        if (!isBetween(which, 0, 1)) {
            return BAD;
        }
        if (!hasLikeOther()) {
            return NO;
        }
        past.remember(table);
        return table.takeHeights(which == 0 ? LESS : MORE, other);
    }

    public int turn(int k) {
        if (!isBetween(k, 1, 6)) {
            return BAD;
        }
        past.remember(table);
        spare.copy(table);
        table.putTurned(k, spare);
        return table.unlikeSigns(spare);
    }

    // ---- lines

    public int across(int r, int c) {
        if (!isBetween(r, 1, table.size) || !isBetween(c, 0, table.size)) {
            return BAD;
        }
        return table.isDrawnAcross(r, c) ? 1 : 0;
    }

    public int down(int r, int c) {
        if (!isBetween(r, 0, table.size) || !isBetween(c, 1, table.size)) {
            return BAD;
        }
        return table.isDrawnDown(r, c) ? 1 : 0;
    }

    public int partner(int end) {
        if (!isBetween(end, 0, 2 * table.size - 1)) {
            return BAD;
        }
        lines.trace(table);
        return lines.partners[end];
    }

    public int line(int end) {
        if (!isBetween(end, 0, 2 * table.size - 1)) {
            return BAD;
        }
        lines.trace(table);
        return lines.lengths[end];
    }

    // ---- all of a size

    public int rank() {
        return sizes[table.size - 1].rankOf(table);
    }

    public int many(int n, int column) {
        if (!isSize(n) || !isBetween(column, -1, n - 1)) {
            return BAD;
        }
        AllOfSize all = sizes[n - 1];
        return column < 0 ? all.total() : all.withFirstOne(column);
    }

    public int alike() {
        if (table.size > LARGEST_JOINED) {
            return NO;
        }
        AllOfSize all = sizes[table.size - 1];
        all.sortByPartners(lines, spare);
        lines.trace(table);
        int way = all.wayOf(lines.partnersCode());
        return isBetween(way, 0, MOST_WAYS - 1) ? all.tally[way] : 0;
    }

    public int ways(int n, int which) {
        if (!isBetween(n, 1, LARGEST_JOINED) || which < -1) {
            return BAD;
        }
        AllOfSize all = sizes[n - 1];
        all.sortByPartners(lines, spare);
        if (which == -1) {
            return all.ways;
        }
        return which < all.ways ? all.tally[which] : NONE;
    }

    // ---- what numbers are told

    private static boolean isBetween(int number, int least, int most) {
        return number >= least && number <= most;
    }

    private static boolean isSize(int n) {
        return isBetween(n, 1, LARGEST);
    }

    private boolean isCorner(int i, int j) {
        return isBetween(i, 0, table.size) && isBetween(j, 0, table.size);
    }

    private boolean isInner(int i, int j) {
        return isBetween(i, 1, table.size - 1) && isBetween(j, 1, table.size - 1);
    }

    private boolean hasLikeOther() {
        return other.size == table.size;
    }

    /** A table by its CORNERS; those beyond its size are left from before and never looked at. */
    private static final class Table {
        int size;
        final int[] corners = new int[STRIDE * STRIDE];

        void copy(Table from) {
            size = from.size;
            System.arraycopy(from.corners, 0, corners, 0, STRIDE * STRIDE);
        }

        int cornerAt(int i, int j) {
            return corners[i * STRIDE + j];
        }

        void putCorner(int i, int j, int corner) {
            corners[i * STRIDE + j] = corner;
        }

        int heightAt(int i, int j) {
            return i + j - 2 * cornerAt(i, j);
        }

        /** Of the row r (1 to N), the sum of its first c SIGNS. */
        int rowSum(int r, int c) {
            return cornerAt(r, c) - cornerAt(r - 1, c);
        }

        /** Of the column c (1 to N), the sum of its first r SIGNS. */
        int columnSum(int r, int c) {
            return cornerAt(r, c) - cornerAt(r, c - 1);
        }

        int signAt(int row, int column) {
            return rowSum(row + 1, column + 1) - rowSum(row + 1, column);
        }

        int negatives() {
            int found = 0;
            for (int row = 0; row < size; row++) {
                for (int column = 0; column < size; column++) {
                    if (signAt(row, column) < 0) {
                        found++;
                    }
                }
            }
            return found;
        }

        /** Each SIGN times the sum of all SIGNS below and left of it: columns are full in the last row. */
        int inversions() {
            int sum = 0;
            for (int row = 0; row < size; row++) {
                for (int column = 0; column < size; column++) {
                    int belowLeft = column - cornerAt(row + 1, column);
                    sum += signAt(row, column) * belowLeft;
                }
            }
            return sum;
        }

        int heightsTogether() {
            int sum = 0;
            for (int i = 0; i <= size; i++) {
                for (int j = 0; j <= size; j++) {
                    sum += heightAt(i, j);
                }
            }
            return sum;
        }

        int flipKind(int i, int j) {
            int around = heightAt(i - 1, j);
            if (heightAt(i + 1, j) != around
                    || heightAt(i, j - 1) != around
                    || heightAt(i, j + 1) != around) {
                return 0;
            }
            return heightAt(i, j) < around ? MORE : LESS;
        }

        int flippable() {
            int found = 0;
            for (int i = 1; i < size; i++) {
                for (int j = 1; j < size; j++) {
                    if (flipKind(i, j) != 0) {
                        found++;
                    }
                }
            }
            return found;
        }

        /** Only where it can be FLIPPED. A HEIGHT goes up by 2 as its CORNER goes down by 1. */
        void flipAt(int i, int j) {
            int step = flipKind(i, j) == MORE ? -1 : 1;
            putCorner(i, j, cornerAt(i, j) + step);
        }

        int gyrateOnce() {
            return flipAll(0) + flipAll(1);
        }

        /** Neighbours are of the other colour, so that flips of one colour do not touch each other. */
        private int flipAll(int colour) {
            int flips = 0;
            for (int i = 1; i < size; i++) {
                for (int j = 1; j < size; j++) {
                    if ((i + j) % 2 == colour && flipKind(i, j) != 0) {
                        flipAt(i, j);
                        flips++;
                    }
                }
            }
            return flips;
        }

        /** How far APART: HEIGHTS differ by twice what CORNERS do. */
        int distance(Table from) {
            int sum = 0;
            for (int i = 1; i < size; i++) {
                for (int j = 1; j < size; j++) {
                    sum += Math.abs(cornerAt(i, j) - from.cornerAt(i, j));
                }
            }
            return sum;
        }

        /** Whether the HEIGHT of another table is MORE or LESS there than the own one, or neither. */
        private int wayTo(Table goal, int i, int j) {
            int missing = goal.heightAt(i, j) - heightAt(i, j);
            return missing > 0 ? MORE : missing < 0 ? LESS : 0;
        }

        boolean comesNearer(int i, int j, Table goal) {
            int kind = flipKind(i, j);
            return kind != 0 && kind == wayTo(goal, i, j);
        }

        /** Takes those HEIGHTS of another table that are of this kind beside the own ones. */
        int takeHeights(int kind, Table from) {
            int taken = 0;
            for (int i = 1; i < size; i++) {
                for (int j = 1; j < size; j++) {
                    if (wayTo(from, i, j) == kind) {
                        putCorner(i, j, from.cornerAt(i, j));
                        taken++;
                    }
                }
            }
            return taken;
        }

        /** Becomes another table of the same size, turned or mirrored as k says. */
        void putTurned(int k, Table from) {
            for (int row = 0; row < size; row++) {
                int sum = 0;
                for (int column = 0; column < size; column++) {
                    sum += from.turnedSign(k, row, column);
                    putCorner(row + 1, column + 1, cornerAt(row, column + 1) + sum);
                }
            }
        }

        /** The SIGN that comes to a place when this table is turned. */
        private int turnedSign(int k, int row, int column) {
            int last = size - 1;
            switch (k) {
                case 1:
                    return signAt(last - column, row);
                case 2:
                    return signAt(last - row, last - column);
                case 3:
                    return signAt(column, last - row);
                case 4:
                    return signAt(row, last - column);
                case 5:
                    return signAt(last - row, column);
                default:
                    return signAt(column, row);
            }
        }

        int unlikeSigns(Table from) {
            int unlike = 0;
            for (int row = 0; row < size; row++) {
                for (int column = 0; column < size; column++) {
                    if (signAt(row, column) != from.signAt(row, column)) {
                        unlike++;
                    }
                }
            }
            return unlike;
        }

        boolean isDrawnAcross(int r, int c) {
            return (rowSum(r, c) + r + c) % 2 == 0;
        }

        boolean isDrawnDown(int r, int c) {
            return (columnSum(r, c) + r + c) % 2 != 0;
        }

        int drawnEdges() {
            int drawn = 0;
            for (int ahead = 0; ahead <= size; ahead++) {
                for (int number = 1; number <= size; number++) {
                    if (isDrawnAcross(number, ahead)) {
                        drawn++;
                    }
                    if (isDrawnDown(ahead, number)) {
                        drawn++;
                    }
                }
            }
            return drawn;
        }

        /** The columns whose sum is 1 behind so many rows, as bits, column 0 the highest. */
        int fullColumns(int rows) {
            int mask = 0;
            for (int c = 1; c <= size; c++) {
                mask = 2 * mask + columnSum(rows, c);
            }
            return mask;
        }

        void putFullColumns(int rows, int mask) {
            for (int c = 1; c <= size; c++) {
                int bit = mask >> (size - c) & 1;
                putCorner(rows, c, cornerAt(rows, c - 1) + bit);
            }
        }
    }

    /** THE TEXT, and a reading of it that lays what it has read on a draft. */
    private static final class Text {
        final char[] letters = new char[MOST_LETTERS];
        int length;
        final Table draft = new Table();
        private int rowsEnded;
        private int rowLength;
        private int rowSum;

        void add(char letter) {
            if (length < MOST_LETTERS) {
                letters[length] = letter;
                length++;
            }
        }

        /** FAULT or NONE; if there is none, the draft is the table that THE TEXT tells. */
        int firstFault() {
            draft.size = 0;
            rowsEnded = 0;
            startRow();
            for (int at = 0; at < length; at++) {
                if (!canStand(letters[at])) {
                    return at;
                }
            }
            return isWhole() ? NONE : length;
        }

        private void startRow() {
            rowLength = 0;
            rowSum = 0;
        }

        /** The size is 0 until the first row has ended. */
        private boolean isWhole() {
            return draft.size > 0 && rowsEnded == draft.size;
        }

        private boolean canStand(char letter) {
            if (isWhole()) {
                return false;
            }
            if (letter == ';') {
                return canEndRow();
            }
            if (letter == '0') {
                return canPut(0);
            }
            return letter == '+' && canPut(1) || letter == '-' && canPut(-1);
        }

        private boolean canPut(int sign) {
            int most = draft.size > 0 ? draft.size : LARGEST;
            if (rowLength >= most) {
                return false;
            }
            rowSum += sign;
            rowLength++;
            int r = rowsEnded + 1;
            draft.putCorner(r, rowLength, draft.cornerAt(r - 1, rowLength) + rowSum);
            return isBetween(rowSum, 0, 1) && isBetween(draft.columnSum(r, rowLength), 0, 1);
        }

        private boolean canEndRow() {
            if (rowLength == 0 || rowLength < draft.size || rowSum != 1) {
                return false;
            }
            draft.size = rowLength;
            rowsEnded++;
            startRow();
            return true;
        }
    }

    /** The tables ahead of the latest changes, in a ring: the oldest gives way. */
    private static final class Past {
        private final Table[] tables = new Table[MOST_UNDONE];
        private int free;
        int held;

        Past() {
            for (int at = 0; at < MOST_UNDONE; at++) {
                tables[at] = new Table();
            }
        }

        void remember(Table table) {
            tables[free].copy(table);
            free = (free + 1) % MOST_UNDONE;
            held = Math.min(held + 1, MOST_UNDONE);
        }

        void giveBack(Table table) {
            if (held > 0) {
                free = (free + MOST_UNDONE - 1) % MOST_UNDONE;
                held--;
                table.copy(tables[free]);
            }
        }

        void forget() {
            held = 0;
        }
    }

    /**
     * The LINES and RINGS of a table. Each place has two DRAWN EDGES, so it is on one LINE or RING;
     * a LINE has one EDGE more than places, a RING as many.
     */
    private static final class Lines {
        final int[] partners = new int[2 * LARGEST];
        final int[] lengths = new int[2 * LARGEST];
        int ringEdges;
        int rings;
        private int size;
        private int ends;
        /** For each place a bit for each side with a DRAWN EDGE; 0 when a walk has gone through. */
        private final int[] open = new int[STRIDE * STRIDE];
        /** The END at a place of the rim, SIDES * size of them from the upper left on round. */
        private final int[] endAtRim = new int[SIDES * LARGEST];
        private int row;
        private int column;
        /** The side by which the walk has come into its place. */
        private int side;

        void trace(Table table) {
            size = table.size;
            openPlaces(table);
            numberEnds();
            for (int from = 0; from < SIDES; from++) {
                for (int offset = 0; offset < size; offset++) {
                    followLine(from, offset);
                }
            }
            followRings();
        }

        /** All partners as one number: two tables have the same one, if they join their ENDS alike. */
        long partnersCode() {
            long code = 0;
            for (int end = 0; end < ends; end++) {
                code = code * (2 * LARGEST) + partners[end];
            }
            return code;
        }

        private void openPlaces(Table table) {
            for (int r = 1; r <= size; r++) {
                for (int c = 1; c <= size; c++) {
                    int sides = 0;
                    sides |= table.isDrawnDown(r - 1, c) ? 1 << ABOVE : 0;
                    sides |= table.isDrawnAcross(r, c) ? 1 << RIGHT : 0;
                    sides |= table.isDrawnDown(r, c) ? 1 << BELOW : 0;
                    sides |= table.isDrawnAcross(r, c - 1) ? 1 << LEFT : 0;
                    open[r * STRIDE + c] = sides;
                }
            }
        }

        private void numberEnds() {
            ends = 0;
            for (int from = 0; from < SIDES; from++) {
                for (int offset = 0; offset < size; offset++) {
                    standAtRim(from, offset);
                    boolean isEnd = isOpen(from) && ends < 2 * LARGEST;
                    endAtRim[from * size + offset] = isEnd ? ends : NONE;
                    if (isEnd) {
                        ends++;
                    }
                }
            }
        }

        private void standAtRim(int from, int offset) {
            int back = size - offset;
            row = from == ABOVE ? 1 : from == RIGHT ? offset + 1 : from == BELOW ? size : back;
            column = from == ABOVE ? offset + 1 : from == RIGHT ? size : from == BELOW ? back : 1;
            side = from;
        }

        /** Where at the rim a walk has come out. */
        private int rimPassed() {
            if (row < 1) {
                return ABOVE * size + column - 1;
            }
            if (column > size) {
                return RIGHT * size + row - 1;
            }
            if (row > size) {
                return BELOW * size + size - column;
            }
            return LEFT * size + size - row;
        }

        private boolean isInside() {
            return isBetween(row, 1, size) && isBetween(column, 1, size);
        }

        private boolean isOpen(int which) {
            return (open[row * STRIDE + column] >> which & 1) == 1;
        }

        /** A LINE is walked from its lower END; its places are closed when the other one comes. */
        private void followLine(int from, int offset) {
            standAtRim(from, offset);
            int start = endAtRim[from * size + offset];
            if (start < 0 || !isOpen(from)) {
                return;
            }
            int length = 1;
            for (int step = 0; step < LARGEST * LARGEST && isInside(); step++) {
                goOn();
                length++;
            }
            int finish = endAtRim[rimPassed()];
            if (finish >= 0) {
                join(start, finish, length);
            }
        }

        private void join(int start, int finish, int length) {
            partners[start] = finish;
            partners[finish] = start;
            lengths[start] = length;
            lengths[finish] = length;
        }

        /** What no LINE has gone through is on RINGS. */
        private void followRings() {
            rings = 0;
            ringEdges = 0;
            for (int r = 1; r <= size; r++) {
                for (int c = 1; c <= size; c++) {
                    if (open[r * STRIDE + c] != 0) {
                        rings++;
                        followRing(r, c);
                    }
                }
            }
        }

        private void followRing(int r, int c) {
            row = r;
            column = c;
            side = isOpen(ABOVE) ? ABOVE : isOpen(RIGHT) ? RIGHT : BELOW;
            for (int step = 0; step < LARGEST * LARGEST && isInside(); step++) {
                if (open[row * STRIDE + column] == 0) {
                    return;
                }
                goOn();
                ringEdges++;
            }
        }

        /** Through the place by its other DRAWN EDGE to the next one, or out of the table. */
        private void goOn() {
            int at = row * STRIDE + column;
            int out = open[at] & ~(1 << side);
            open[at] = 0;
            if (out == 1 << ABOVE) {
                row--;
                side = BELOW;
            } else if (out == 1 << RIGHT) {
                column++;
                side = LEFT;
            } else if (out == 1 << BELOW) {
                row++;
                side = ABOVE;
            } else {
                column--;
                side = RIGHT;
            }
        }
    }

    /**
     * All tables of a size. A row is told by the columns whose sum is 1 behind it, as bits, column 0
     * the highest: of two rows behind the same ones that with the greater mask is ahead in ORDER.
     */
    private static final class AllOfSize {
        private final int size;
        private final int masks;
        /** For each mask, in how many ways the rows behind it can go on; empty until it is asked. */
        private final int[] endings = new int[1 << LARGEST];
        private boolean areEndingsCounted;
        /** The ways to join ENDS by lowest RANK, and how many tables have each. */
        private final long[] codes = new long[MOST_WAYS];
        final int[] tally = new int[MOST_WAYS];
        int ways;

        AllOfSize(int size) {
            this.size = size;
            masks = 1 << size;
        }

        int total() {
            countEndings();
            return endings[0];
        }

        int withFirstOne(int column) {
            countEndings();
            return endings[1 << (size - 1 - column)];
        }

        int rankOf(Table table) {
            countEndings();
            int ahead = 0;
            int above = 0;
            for (int rows = 1; rows <= size; rows++) {
                int mask = table.fullColumns(rows);
                ahead += endingsFrom(above, mask + 1);
                above = mask;
            }
            return ahead;
        }

        /** Only a rank from 0 to less than the total. */
        void put(int rank, Table target) {
            countEndings();
            target.size = size;
            int left = rank;
            int above = 0;
            for (int rows = 1; rows <= size; rows++) {
                int mask = masks - 1;
                for (; mask > 0; mask--) {
                    int passed = canFollow(above, mask) ? endings[mask] : 0;
                    if (left < passed) {
                        break;
                    }
                    left -= passed;
                }
                target.putFullColumns(rows, mask);
                above = mask;
            }
        }

        /** Puts all tables into their ways, once; what it is given is used up. */
        void sortByPartners(Lines lines, Table draft) {
            if (ways > 0) {
                return;
            }
            int tables = total();
            for (int rank = 0; rank < tables; rank++) {
                put(rank, draft);
                lines.trace(draft);
                addToWay(lines.partnersCode());
            }
        }

        private void addToWay(long code) {
            int way = wayOf(code);
            if (way >= MOST_WAYS) {
                return;
            }
            if (way == ways) {
                codes[way] = code;
                ways++;
            }
            tally[way]++;
        }

        /** The way with this code; if there is none yet, the number of ways. */
        int wayOf(long code) {
            for (int way = 0; way < ways; way++) {
                if (codes[way] == code) {
                    return way;
                }
            }
            return ways;
        }

        /** From the last row up, as endings follow from those with one column more. */
        private void countEndings() {
            if (areEndingsCounted) {
                return;
            }
            areEndingsCounted = true;
            endings[masks - 1] = 1;
            for (int rows = size - 1; rows >= 0; rows--) {
                for (int mask = 0; mask < masks; mask++) {
                    if (Integer.bitCount(mask) == rows) {
                        endings[mask] = endingsFrom(mask, 0);
                    }
                }
            }
        }

        /** In how many ways rows go on behind a mask, if the next one is not less than the lowest. */
        private int endingsFrom(int above, int lowest) {
            int sum = 0;
            for (int mask = lowest; mask < masks; mask++) {
                if (canFollow(above, mask)) {
                    sum += endings[mask];
                }
            }
            return sum;
        }

        /** Whether the row between two masks has sums so far of 0 or 1 and 1 in all. */
        private boolean canFollow(int above, int below) {
            int sum = 0;
            for (int bit = size - 1; bit >= 0; bit--) {
                sum += (below >> bit & 1) - (above >> bit & 1);
                if (sum < 0 || sum > 1) {
                    return false;
                }
            }
            return sum == 1;
        }
    }
}
