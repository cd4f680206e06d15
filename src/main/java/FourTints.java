import java.util.Arrays;

/**
 * Four Tints, a workshop for coloured maps.
 *
 * A set of cells is held in a long, with bit row * COLUMNS + column for a cell; a set of
 * countries in an int, with bit number for a country. All rows are made in the constructor
 * and used again by every call, so that calls make nothing.
 */
public final class FourTints {
    /** There is none. */
    public static final int NONE = -1;
    /** In place of a country: sea. */
    public static final int SEA = -1;

    private static final int ROWS = 6;
    private static final int COLUMNS = 6;
    private static final int CELLS = ROWS * COLUMNS;
    private static final int COUNTRIES = 10;
    private static final int SETS_OF_COUNTRIES = 1 << COUNTRIES;
    private static final int PAIRS_OF_COUNTRIES = COUNTRIES * (COUNTRIES - 1) / 2;
    private static final int NO_TINT = 0;
    private static final int MOST_TINTS = 10;

    private static final long MAP = (1L << CELLS) - 1;
    private static final long FIRST_ROW = (1L << COLUMNS) - 1;
    private static final long LAST_ROW = FIRST_ROW << (CELLS - COLUMNS);
    private static final long FIRST_COLUMN = 0x041041041L;
    private static final long LAST_COLUMN = FIRST_COLUMN << (COLUMNS - 1);
    private static final long EDGE = FIRST_ROW | LAST_ROW | FIRST_COLUMN | LAST_COLUMN;

    /** The cells of each country. */
    private final long[] land;
    /** The countries that are there; found anew whenever cells are painted. */
    private int there;
    /** The neighbours of each country; found anew whenever cells are painted. */
    private final int[] near;
    /** The tint of each country. */
    private final int[] worn;

    /** For one call: the tints of a tinting that is looked for. */
    private final int[] trial;
    /** For one call: whether a set of countries is of the kind that is looked for. */
    private final boolean[] fits;
    /** For one call: the ways to come to a set of countries that is not shared out yet. */
    private final long[] ways;
    /** For one call: the neighbours of each country once pairs are made one or joined. */
    private final int[][] joined;

    public FourTints() {
        land = new long[COUNTRIES];
        there = 0;
        near = new int[COUNTRIES];
        worn = new int[COUNTRIES];
        trial = new int[COUNTRIES];
        fits = new boolean[SETS_OF_COUNTRIES];
        ways = new long[SETS_OF_COUNTRIES];
        joined = new int[COUNTRIES][COUNTRIES];
    }

    // ---- painting

    public int paint(int row, int column, int country) throws IndexOutOfBoundsException, IllegalArgumentException {
        checkCell(row, column);
        checkPaint(country);
        long cell = block(row, column, row, column);
        int before = ownerOf(cell);
        cover(cell, country);
        return before;
    }

    public int paintBlock(int row, int column, int toRow, int toColumn, int country) throws IndexOutOfBoundsException, IllegalArgumentException {
        checkCell(row, column);
        checkCell(toRow, toColumn);
        checkPaint(country);
        if (toRow < row || toColumn < column) {
            throw new IllegalArgumentException("the block ends before it begins");
        }
        long cells = block(row, column, toRow, toColumn);
        int changed = Long.bitCount(cells & ~cellsOf(country));
        cover(cells, country);
        return changed;
    }

    public int countryAt(int row, int column) throws IndexOutOfBoundsException {
        checkCell(row, column);
        return ownerOf(block(row, column, row, column));
    }

    // ---- countries

    public int countries() {
        return Integer.bitCount(there);
    }

    public int area(int country) throws IndexOutOfBoundsException {
        checkCountry(country);
        return Long.bitCount(land[country]);
    }

    public int pieces(int country) throws IndexOutOfBoundsException {
        checkCountry(country);
        return countPieces(land[country]);
    }

    public int largestPiece(int country) throws IndexOutOfBoundsException {
        checkCountry(country);
        int largest = 0;
        long left = land[country];
        for (int found = 0; found < CELLS && left != 0; found++) {
            long piece = pieceIn(left);
            largest = Math.max(largest, Long.bitCount(piece));
            left &= ~piece;
        }
        return largest;
    }

    public int scattered() {
        int count = 0;
        for (int country = 0; country < COUNTRIES; country++) {
            if (countPieces(land[country]) > 1) {
                count++;
            }
        }
        return count;
    }

    public int neighbours(int country) throws IndexOutOfBoundsException {
        checkCountry(country);
        return Integer.bitCount(near[country]);
    }

    public int border(int country, int other) throws IndexOutOfBoundsException {
        checkCountry(country);
        checkCountry(other);
        if (country == other) {
            return 0;
        }
        long cells = land[country];
        long others = land[other];
        return Long.bitCount(above(cells) & others) + Long.bitCount(below(cells) & others)
                + Long.bitCount(leftOf(cells) & others) + Long.bitCount(rightOf(cells) & others);
    }

    public int enclosed(int country) throws IndexOutOfBoundsException {
        checkCountry(country);
        long outside = MAP & ~land[country];
        long open = reach(EDGE & outside, outside);
        return Long.bitCount(outside & ~open);
    }

    public int allNeighbours() {
        markSetsOfNeighbours();
        int most = 0;
        for (int set = 0; set < SETS_OF_COUNTRIES; set++) {
            if (fits[set] && (set & ~there) == 0) {
                most = Math.max(most, Integer.bitCount(set));
            }
        }
        return most;
    }

    // ---- tints

    public int tint(int country, int tint) throws IndexOutOfBoundsException, IllegalArgumentException {
        checkCountry(country);
        if (tint != NO_TINT) {
            checkTint(tint);
        }
        int before = worn[country];
        worn[country] = tint;
        return before;
    }

    public int tintOf(int country) throws IndexOutOfBoundsException {
        checkCountry(country);
        return worn[country];
    }

    public int conflicts() {
        int ends = 0;
        for (int country = 0; country < COUNTRIES; country++) {
            if (worn[country] != NO_TINT) {
                ends += Integer.bitCount(near[country] & wearing(worn[country]));
            }
        }
        // each conflict has been met from both its countries
        return ends >> 1;
    }

    public boolean isTinted() {
        return (there & wearing(NO_TINT)) == 0 && conflicts() == 0;
    }

    public int leastFree(int country) throws IndexOutOfBoundsException {
        checkCountry(country);
        return leastFreeBeside(near[country]);
    }

    public int chain(int country, int tint) throws IndexOutOfBoundsException, IllegalArgumentException, IllegalStateException {
        checkCountry(country);
        checkTint(tint);
        checkTinted(country);
        return Integer.bitCount(chainOf(country, tint));
    }

    public int exchange(int country, int tint) throws IndexOutOfBoundsException, IllegalArgumentException, IllegalStateException {
        checkCountry(country);
        checkTint(tint);
        checkTinted(country);
        int own = worn[country];
        if (own == tint) {
            return 0;
        }
        int chained = chainOf(country, tint);
        for (int each = 0; each < COUNTRIES; each++) {
            if (has(chained, each)) {
                worn[each] = worn[each] == own ? tint : own;
            }
        }
        return Integer.bitCount(chained);
    }

    public int tintInOrder(boolean byNeighbours) {
        for (int country = 0; country < COUNTRIES; country++) {
            if (has(there, country)) {
                worn[country] = NO_TINT;
            }
        }
        if (!byNeighbours) {
            return giveLeastFree(there);
        }
        int greatest = NO_TINT;
        for (int number = COUNTRIES - 1; number >= 0; number--) {
            greatest = Math.max(greatest, giveLeastFree(withNeighbours(number)));
        }
        return greatest;
    }

    // ---- all tintings

    public int fewestTints() {
        return tryFewest();
    }

    public int tintWithFewest() {
        int fewest = tryFewest();
        for (int country = 0; country < COUNTRIES; country++) {
            if (has(there, country)) {
                worn[country] = trial[country];
            }
        }
        return fewest;
    }

    public long tintings(int tints) throws IllegalArgumentException {
        checkNumberOfTints(tints);
        markSetsWithoutNeighbours();
        Arrays.fill(ways, 0L);
        ways[there] = 1;
        long total = there == 0 ? 1 : 0;
        long choices = 1;
        for (int taken = 0; taken < tints && taken < COUNTRIES; taken++) {
            choices *= tints - taken;
            shareOutOneSet();
            total += choices * ways[0];
        }
        return total;
    }

    public long tintingsByPairs(int tints) throws IllegalArgumentException {
        checkNumberOfTints(tints);
        System.arraycopy(near, 0, joined[0], 0, COUNTRIES);
        return countByPairs(joined, 0, there, tints);
    }

    // ---- checks of what is given

    private static void checkCell(int row, int column) {
        if (row < 0 || row >= ROWS || column < 0 || column >= COLUMNS) {
            throw new IndexOutOfBoundsException("there is no such row or column");
        }
    }

    private static void checkCountry(int country) {
        if (country < 0 || country >= COUNTRIES) {
            throw new IndexOutOfBoundsException("there is no such country");
        }
    }

    private static void checkPaint(int country) {
        if (country != SEA && (country < 0 || country >= COUNTRIES)) {
            throw new IllegalArgumentException("neither a country nor sea");
        }
    }

    private static void checkTint(int tint) {
        if (tint < 1 || tint > MOST_TINTS) {
            throw new IllegalArgumentException("there is no such tint");
        }
    }

    private static void checkNumberOfTints(int tints) {
        if (tints < 0 || tints > MOST_TINTS) {
            throw new IllegalArgumentException("there are not so many tints");
        }
    }

    private void checkTinted(int country) {
        if (!has(there, country) || worn[country] == NO_TINT) {
            throw new IllegalStateException("the country is not there or has no tint");
        }
    }

    // ---- sets of cells

    private static long block(int row, int column, int toRow, int toColumn) {
        long cells = 0;
        for (int r = row; r <= toRow; r++) {
            for (int c = column; c <= toColumn; c++) {
                cells |= 1L << (r * COLUMNS + c);
            }
        }
        return cells;
    }

    private static long above(long cells) {
        return cells >>> COLUMNS;
    }

    private static long below(long cells) {
        return (cells << COLUMNS) & MAP;
    }

    private static long leftOf(long cells) {
        return (cells & ~FIRST_COLUMN) >>> 1;
    }

    private static long rightOf(long cells) {
        return (cells & ~LAST_COLUMN) << 1;
    }

    /** The cells and all that touch one of them. */
    private static long spread(long cells) {
        return cells | above(cells) | below(cells) | leftOf(cells) | rightOf(cells);
    }

    /** All cells of a set to which one can go from some of its cells over touching cells of the set. */
    private static long reach(long from, long set) {
        long reached = from;
        for (int step = 0; step < CELLS; step++) {
            long wider = spread(reached) & set;
            if (wider == reached) {
                return reached;
            }
            reached = wider;
        }
        return reached;
    }

    /** The piece of a set that has its first cell. */
    private static long pieceIn(long cells) {
        return reach(cells & -cells, cells);
    }

    private static int countPieces(long cells) {
        long left = cells;
        int count = 0;
        while (count < CELLS && left != 0) {
            left &= ~pieceIn(left);
            count++;
        }
        return count;
    }

    /** The cells of a country, or those of the sea. */
    private long cellsOf(int country) {
        if (country >= 0 && country < COUNTRIES) {
            return land[country];
        }
        long sea = MAP;
        for (int each = 0; each < COUNTRIES; each++) {
            sea &= ~land[each];
        }
        return sea;
    }

    private int ownerOf(long cell) {
        for (int country = 0; country < COUNTRIES; country++) {
            if ((land[country] & cell) != 0) {
                return country;
            }
        }
        return SEA;
    }

    private void cover(long cells, int country) {
        for (int each = 0; each < COUNTRIES; each++) {
            land[each] &= ~cells;
        }
        if (country >= 0 && country < COUNTRIES) {
            land[country] |= cells;
        }
        findNeighbours();
    }

    // ---- sets of countries

    private static boolean has(int set, int country) {
        return (set & (1 << country)) != 0;
    }

    private void findNeighbours() {
        there = 0;
        for (int country = 0; country < COUNTRIES; country++) {
            if (land[country] != 0) {
                there |= 1 << country;
            }
            near[country] = thoseIn(spread(land[country])) & ~(1 << country);
        }
    }

    /** The countries that have one of the cells. */
    private int thoseIn(long cells) {
        int set = 0;
        for (int country = 0; country < COUNTRIES; country++) {
            if ((land[country] & cells) != 0) {
                set |= 1 << country;
            }
        }
        return set;
    }

    private int withNeighbours(int number) {
        int set = 0;
        for (int country = 0; country < COUNTRIES; country++) {
            if (has(there, country) && Integer.bitCount(near[country]) == number) {
                set |= 1 << country;
            }
        }
        return set;
    }

    /** Marks the sets whose countries are all neighbours of one another: each is built up from its lower countries. */
    private void markSetsOfNeighbours() {
        fits[0] = true;
        for (int country = 0; country < COUNTRIES; country++) {
            for (int lower = 0; lower < 1 << country; lower++) {
                fits[lower | 1 << country] = fits[lower] && (lower & ~near[country]) == 0;
            }
        }
    }

    /** Marks the sets in which no two countries are neighbours: each is built up from its lower countries. */
    private void markSetsWithoutNeighbours() {
        fits[0] = true;
        for (int country = 0; country < COUNTRIES; country++) {
            for (int lower = 0; lower < 1 << country; lower++) {
                fits[lower | 1 << country] = fits[lower] && (lower & near[country]) == 0;
            }
        }
    }

    // ---- tints that are worn

    /** The countries, there or not, that have a tint. */
    private int wearing(int tint) {
        int set = 0;
        for (int country = 0; country < COUNTRIES; country++) {
            if (worn[country] == tint) {
                set |= 1 << country;
            }
        }
        return set;
    }

    private int leastFreeBeside(int countries) {
        for (int tint = 1; tint < MOST_TINTS; tint++) {
            if ((wearing(tint) & countries) == 0) {
                return tint;
            }
        }
        // nine neighbours at most: if they have the lower tints, the last one is free
        return MOST_TINTS;
    }

    /** Tints untinted countries by their numbers, each with the least free tint; returns the greatest one given. */
    private int giveLeastFree(int countries) {
        int greatest = NO_TINT;
        for (int country = 0; country < COUNTRIES; country++) {
            if (has(countries, country)) {
                worn[country] = leastFreeBeside(near[country]);
                greatest = Math.max(greatest, worn[country]);
            }
        }
        return greatest;
    }

    private int chainOf(int country, int tint) {
        int allowed = there & (wearing(worn[country]) | wearing(tint));
        int chained = 1 << country;
        // a way from neighbour to neighbour has fewer steps than there are countries
        for (int step = 0; step < COUNTRIES; step++) {
            int wider = chained;
            for (int each = 0; each < COUNTRIES; each++) {
                if (has(chained, each)) {
                    wider |= near[each] & allowed;
                }
            }
            chained = wider;
        }
        return chained;
    }

    // ---- the fewest tints

    /** Leaves the first tinting with the fewest tints in trial, and returns how many these are. */
    private int tryFewest() {
        for (int tints = 0; tints <= MOST_TINTS; tints++) {
            if (tryFrom(0, near, there, trial, 0, tints)) {
                return tints;
            }
        }
        // not come to: there are as many tints as countries
        return MOST_TINTS;
    }

    /**
     * Looks for the first tinting of the countries from this one on, those before it being tinted
     * with the tints up to used. A tint beyond the next unused one would only be that one under
     * another name, and come later: it is not tried.
     */
    private static boolean tryFrom(int country, int[] near, int there, int[] trial, int used, int tints) {
        if (country >= COUNTRIES) {
            return true;
        }
        if (!has(there, country)) {
            return tryFrom(country + 1, near, there, trial, used, tints);
        }
        for (int tint = 1; tint <= tints && tint <= used + 1; tint++) {
            if (isFreeIn(trial, country, near[country], tint)) {
                trial[country] = tint;
                if (tryFrom(country + 1, near, there, trial, Math.max(used, tint), tints)) {
                    return true;
                }
            }
        }
        return false;
    }

    /** Whether none of a country's neighbours before it has the tint. */
    private static boolean isFreeIn(int[] trial, int country, int neighbours, int tint) {
        for (int before = 0; before < country; before++) {
            if (has(neighbours, before) && trial[before] == tint) {
                return false;
            }
        }
        return true;
    }

    // ---- counting by sets

    /**
     * Takes, from all countries that are left in each way, a marked set more that has the first of
     * them. What is left then is a smaller number than before, which has had its turn already: so
     * one row is enough for both.
     */
    private void shareOutOneSet() {
        ways[0] = 0;
        for (int left = 1; left < SETS_OF_COUNTRIES; left++) {
            long soFar = ways[left];
            if (soFar != 0) {
                ways[left] = 0;
                shareOutFrom(left, soFar);
            }
        }
    }

    private void shareOutFrom(int left, long soFar) {
        int first = left & -left;
        int others = left & ~first;
        int more = others;
        for (int turn = 0; turn < SETS_OF_COUNTRIES; turn++) {
            if (fits[first | more]) {
                ways[others & ~more] += soFar;
            }
            if (more == 0) {
                return;
            }
            more = (more - 1) & others;
        }
    }

    // ---- counting by pairs

    /**
     * Counts the tintings of the countries that are left. Two that are not neighbours are taken:
     * with the same tint for both they are one country, counted a level deeper, where there is one
     * country fewer; with unlike tints they are as good as neighbours, and are joined here. Each
     * turn joins a pair or sets a country aside, so that the turns have an end.
     */
    private static long countByPairs(int[][] joined, int depth, int countries, int tints) {
        if (depth >= COUNTRIES) {
            return 0;
        }
        int[] near = joined[depth];
        int left = countries;
        long total = 0;
        long choices = 1;
        for (int turn = 0; turn < COUNTRIES + PAIRS_OF_COUNTRIES && left != 0; turn++) {
            int last = oneToTintLast(near, left);
            if (last != NONE) {
                choices *= tints - Integer.bitCount(near[last] & left);
                left &= ~(1 << last);
                continue;
            }
            int one = firstWithStranger(near, left);
            int other = firstOf(left & ~near[one] & ~(1 << one));
            if (depth + 1 < COUNTRIES) {
                makeOne(near, joined[depth + 1], one, other);
                total += choices * countByPairs(joined, depth + 1, left & ~(1 << other), tints);
            }
            near[one] |= 1 << other;
            near[other] |= 1 << one;
        }
        return total + choices;
    }

    /**
     * A country whose neighbours are all neighbours of one another; NONE without such a one. Tinted
     * after all others, it has all tints but those of its neighbours, which are unlike: so it need
     * not be paired. Without it the pairs of ten countries apart would take too many turns.
     */
    private static int oneToTintLast(int[] near, int left) {
        for (int country = 0; country < COUNTRIES; country++) {
            if (has(left, country) && areAllNeighbours(near, near[country] & left)) {
                return country;
            }
        }
        return NONE;
    }

    private static boolean areAllNeighbours(int[] near, int set) {
        for (int country = 0; country < COUNTRIES; country++) {
            if (has(set, country) && (set & ~near[country] & ~(1 << country)) != 0) {
                return false;
            }
        }
        return true;
    }

    /** The first country of those left that is not a neighbour of all others; the last one without such a one. */
    private static int firstWithStranger(int[] near, int left) {
        for (int country = 0; country < COUNTRIES - 1; country++) {
            if (has(left, country) && (left & ~near[country] & ~(1 << country)) != 0) {
                return country;
            }
        }
        return COUNTRIES - 1;
    }

    /** The first country of a set; the last one of all if it is empty. */
    private static int firstOf(int set) {
        for (int country = 0; country < COUNTRIES - 1; country++) {
            if (has(set, country)) {
                return country;
            }
        }
        return COUNTRIES - 1;
    }

    /** Writes who is whose neighbour once one country has taken over the other. */
    private static void makeOne(int[] near, int[] after, int one, int other) {
        for (int country = 0; country < COUNTRIES; country++) {
            after[country] = has(near[country], other) ? near[country] | 1 << one : near[country];
        }
        after[one] = near[one] | near[other];
    }
}
