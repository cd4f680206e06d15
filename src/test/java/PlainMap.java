/**
 * The document's promises in their plainest form, cell by cell and country by country, for
 * ReferenceTest to compare with. It shares no way of working with FourTints: no sets in bits,
 * neighbours found anew for every question. Every call answers a long, or throws.
 */
final class PlainMap {
    private static final int SIZE = 6;
    private static final int COUNTRIES = 10;
    private static final int SEA = -1;

    private final int[][] cells = new int[SIZE][SIZE];
    private final int[] tints = new int[COUNTRIES];

    PlainMap() {
        for (int[] row : cells) {
            java.util.Arrays.fill(row, SEA);
        }
    }

    long paint(int row, int column, int country) {
        needCell(row, column);
        needArgument(country >= SEA && country < COUNTRIES);
        int before = cells[row][column];
        cells[row][column] = country;
        return before;
    }

    long paintBlock(int row, int column, int toRow, int toColumn, int country) {
        needCell(row, column);
        needCell(toRow, toColumn);
        needArgument(country >= SEA && country < COUNTRIES && row <= toRow && column <= toColumn);
        int changed = 0;
        for (int r = row; r <= toRow; r++) {
            for (int c = column; c <= toColumn; c++) {
                changed += cells[r][c] == country ? 0 : 1;
                cells[r][c] = country;
            }
        }
        return changed;
    }

    long countryAt(int row, int column) {
        needCell(row, column);
        return cells[row][column];
    }

    long countries() {
        int count = 0;
        for (int country = 0; country < COUNTRIES; country++) {
            count += isThere(country) ? 1 : 0;
        }
        return count;
    }

    long area(int country) {
        needCountry(country);
        int count = 0;
        for (int[] row : cells) {
            for (int cell : row) {
                count += cell == country ? 1 : 0;
            }
        }
        return count;
    }

    long pieces(int country) {
        needCountry(country);
        return piecesAndLargest(country)[0];
    }

    long largestPiece(int country) {
        needCountry(country);
        return piecesAndLargest(country)[1];
    }

    long scattered() {
        int count = 0;
        for (int country = 0; country < COUNTRIES; country++) {
            count += piecesAndLargest(country)[0] > 1 ? 1 : 0;
        }
        return count;
    }

    long neighbours(int country) {
        needCountry(country);
        int count = 0;
        for (int other = 0; other < COUNTRIES; other++) {
            count += areNeighbours(country, other) ? 1 : 0;
        }
        return count;
    }

    long border(int country, int other) {
        needCountry(country);
        needCountry(other);
        return country == other ? 0 : touching(country, other);
    }

    long enclosed(int country) {
        needCountry(country);
        boolean[][] seen = new boolean[SIZE][SIZE];
        int open = 0;
        for (int line = 0; line < SIZE; line++) {
            open += walkAround(0, line, country, seen) + walkAround(SIZE - 1, line, country, seen)
                    + walkAround(line, 0, country, seen) + walkAround(line, SIZE - 1, country, seen);
        }
        return SIZE * SIZE - area(country) - open;
    }

    long allNeighbours() {
        return greatestTogether(0, new int[COUNTRIES], 0);
    }

    long tint(int country, int tint) {
        needCountry(country);
        needArgument(tint >= 0 && tint <= 10);
        int before = tints[country];
        tints[country] = tint;
        return before;
    }

    long tintOf(int country) {
        needCountry(country);
        return tints[country];
    }

    long conflicts() {
        int count = 0;
        for (int country = 0; country < COUNTRIES; country++) {
            for (int other = country + 1; other < COUNTRIES; other++) {
                count += areNeighbours(country, other) && tints[country] == tints[other] && tints[country] != 0 ? 1 : 0;
            }
        }
        return count;
    }

    long isTinted() {
        for (int country = 0; country < COUNTRIES; country++) {
            if (isThere(country) && tints[country] == 0) {
                return 0;
            }
        }
        return conflicts() == 0 ? 1 : 0;
    }

    long leastFree(int country) {
        needCountry(country);
        return leastFreeWith(country, tints);
    }

    long chain(int country, int tint) {
        int count = 0;
        for (boolean in : chained(country, tint)) {
            count += in ? 1 : 0;
        }
        return count;
    }

    long exchange(int country, int tint) {
        boolean[] in = chained(country, tint);
        int own = tints[country];
        int changed = 0;
        for (int each = 0; each < COUNTRIES; each++) {
            if (in[each]) {
                int after = tints[each] == own ? tint : own;
                changed += after == tints[each] ? 0 : 1;
                tints[each] = after;
            }
        }
        return changed;
    }

    long tintInOrder(boolean byNeighbours) {
        java.util.List<Integer> order = new java.util.ArrayList<>();
        for (int country = 0; country < COUNTRIES; country++) {
            if (isThere(country)) {
                order.add(country);
            }
        }
        if (byNeighbours) {
            // the sort is stable: of several the lower number stays first
            order.sort((one, other) -> Long.compare(neighbours(other), neighbours(one)));
        }
        int[] given = new int[COUNTRIES];
        long greatest = 0;
        for (int country : order) {
            given[country] = (int) leastFreeWith(country, given);
            greatest = Math.max(greatest, given[country]);
        }
        for (int country : order) {
            tints[country] = given[country];
        }
        return greatest;
    }

    long fewestTints() {
        return firstWithFewest(new int[COUNTRIES]);
    }

    long tintWithFewest() {
        int[] given = new int[COUNTRIES];
        long fewest = firstWithFewest(given);
        for (int country = 0; country < COUNTRIES; country++) {
            if (isThere(country)) {
                tints[country] = given[country];
            }
        }
        return fewest;
    }

    /** Puts one country after the other into a set that has no neighbour of it, or into a new one. */
    long tintings(int number) {
        needArgument(number >= 0 && number <= 10);
        return sharedFrom(0, new int[COUNTRIES], 0, number, neighbourTable());
    }

    private long sharedFrom(int country, int[] setOf, int sets, int number, boolean[][] table) {
        if (country == COUNTRIES) {
            long ways = 1;
            for (int set = 0; set < sets; set++) {
                ways *= number - set;
            }
            return ways;
        }
        if (!isThere(country)) {
            return sharedFrom(country + 1, setOf, sets, number, table);
        }
        long sum = 0;
        for (int set = 1; set <= sets + 1; set++) {
            boolean free = true;
            for (int before = 0; before < country; before++) {
                free &= !(table[country][before] && setOf[before] == set);
            }
            if (free) {
                setOf[country] = set;
                sum += sharedFrom(country + 1, setOf, Math.max(sets, set), number, table);
            }
        }
        setOf[country] = 0;
        return sum;
    }

    private boolean[][] neighbourTable() {
        boolean[][] table = new boolean[COUNTRIES][COUNTRIES];
        for (int country = 0; country < COUNTRIES; country++) {
            for (int other = 0; other < COUNTRIES; other++) {
                table[country][other] = areNeighbours(country, other);
            }
        }
        return table;
    }

    private long firstWithFewest(int[] given) {
        boolean[][] table = neighbourTable();
        for (int number = 0; ; number++) {
            if (tintedFrom(0, given, number, table)) {
                return number;
            }
        }
    }

    private boolean tintedFrom(int country, int[] given, int number, boolean[][] table) {
        if (country == COUNTRIES) {
            return true;
        }
        if (!isThere(country)) {
            return tintedFrom(country + 1, given, number, table);
        }
        for (int tint = 1; tint <= number; tint++) {
            boolean free = true;
            for (int before = 0; before < country; before++) {
                free &= !(table[country][before] && given[before] == tint);
            }
            given[country] = tint;
            if (free && tintedFrom(country + 1, given, number, table)) {
                return true;
            }
        }
        given[country] = 0;
        return false;
    }

    private int greatestTogether(int country, int[] chosen, int count) {
        if (country == COUNTRIES) {
            return count;
        }
        int without = greatestTogether(country + 1, chosen, count);
        if (!isThere(country)) {
            return without;
        }
        for (int index = 0; index < count; index++) {
            if (!areNeighbours(country, chosen[index])) {
                return without;
            }
        }
        chosen[count] = country;
        return Math.max(without, greatestTogether(country + 1, chosen, count + 1));
    }

    private boolean[] chained(int country, int tint) {
        needCountry(country);
        needArgument(tint >= 1 && tint <= 10);
        if (!isThere(country) || tints[country] == 0) {
            throw new IllegalStateException();
        }
        boolean[] in = new boolean[COUNTRIES];
        follow(country, tints[country], tint, in);
        return in;
    }

    private void follow(int country, int own, int tint, boolean[] in) {
        in[country] = true;
        for (int other = 0; other < COUNTRIES; other++) {
            if (!in[other] && areNeighbours(country, other) && (tints[other] == own || tints[other] == tint)) {
                follow(other, own, tint, in);
            }
        }
    }

    private long leastFreeWith(int country, int[] given) {
        for (int tint = 1; ; tint++) {
            boolean free = true;
            for (int other = 0; other < COUNTRIES; other++) {
                free &= !(areNeighbours(country, other) && given[other] == tint);
            }
            if (free) {
                return tint;
            }
        }
    }

    private int[] piecesAndLargest(int country) {
        boolean[][] seen = new boolean[SIZE][SIZE];
        int[] result = new int[2];
        for (int row = 0; row < SIZE; row++) {
            for (int column = 0; column < SIZE; column++) {
                int size = walkWithin(row, column, country, seen);
                result[0] += size > 0 ? 1 : 0;
                result[1] = Math.max(result[1], size);
            }
        }
        return result;
    }

    private int walkWithin(int row, int column, int country, boolean[][] seen) {
        if (!isCell(row, column) || seen[row][column] || cells[row][column] != country) {
            return 0;
        }
        seen[row][column] = true;
        return 1 + walkWithin(row - 1, column, country, seen) + walkWithin(row + 1, column, country, seen)
                + walkWithin(row, column - 1, country, seen) + walkWithin(row, column + 1, country, seen);
    }

    private int walkAround(int row, int column, int country, boolean[][] seen) {
        if (!isCell(row, column) || seen[row][column] || cells[row][column] == country) {
            return 0;
        }
        seen[row][column] = true;
        return 1 + walkAround(row - 1, column, country, seen) + walkAround(row + 1, column, country, seen)
                + walkAround(row, column - 1, country, seen) + walkAround(row, column + 1, country, seen);
    }

    private boolean areNeighbours(int country, int other) {
        return country != other && touching(country, other) > 0;
    }

    private int touching(int country, int other) {
        int pairs = 0;
        for (int row = 0; row < SIZE; row++) {
            for (int column = 0; column < SIZE; column++) {
                if (column + 1 < SIZE && isPair(cells[row][column], cells[row][column + 1], country, other)) {
                    pairs++;
                }
                if (row + 1 < SIZE && isPair(cells[row][column], cells[row + 1][column], country, other)) {
                    pairs++;
                }
            }
        }
        return pairs;
    }

    private static boolean isPair(int one, int two, int country, int other) {
        return one == country && two == other || one == other && two == country;
    }

    private boolean isThere(int country) {
        return area(country) > 0;
    }

    private static boolean isCell(int row, int column) {
        return row >= 0 && row < SIZE && column >= 0 && column < SIZE;
    }

    private static void needCell(int row, int column) {
        if (!isCell(row, column)) {
            throw new IndexOutOfBoundsException();
        }
    }

    private static void needCountry(int country) {
        if (country < 0 || country >= COUNTRIES) {
            throw new IndexOutOfBoundsException();
        }
    }

    private static void needArgument(boolean holds) {
        if (!holds) {
            throw new IllegalArgumentException();
        }
    }
}
