/** One test for each sentence on a boundary case in promises 2 to 4. */
public final class PaintingSentencesTest {
    private static final Class<IndexOutOfBoundsException> BOUNDS = IndexOutOfBoundsException.class;
    private static final Class<IllegalArgumentException> ARGUMENT = IllegalArgumentException.class;
    private static final int LOWEST = Integer.MIN_VALUE;
    private static final int HIGHEST = Integer.MAX_VALUE;
    private static final int[] NO_LINE = {-1, 6, LOWEST, HIGHEST};
    private static final int[] NO_PAINT = {-2, 10, LOWEST, HIGHEST};

    private static final Check CHECK = new Check("PaintingSentencesTest");

    public static void main(String[] args) {
        paintTakesZeroToNineOrSea();
        paintReturnsTheCountryBefore();
        paintReturnsSeaIfItWasSea();
        paintWithoutSuchARow();
        paintWithoutSuchAColumn();
        paintWithCountryOutOfRange();
        blockFromARowToAnotherOne();
        blockTakesZeroToNineOrSea();
        blockCountsOtherCountriesAndSea();
        blockOfSeaCountsWhatWasNotSea();
        blockWithoutSuchARow();
        blockWithoutSuchAColumn();
        blockWithCountryOutOfRange();
        blockWithToRowLessThanRow();
        blockWithToColumnLessThanColumn();
        countryAtACell();
        countryAtTheSea();
        countryAtWithoutSuchARowOrColumn();
        CHECK.end();
    }

    private static void paintTakesZeroToNineOrSea() {
        CHECK.sentence("2: country: 0 to 9, or SEA");
        FourTints map = new FourTints();
        CHECK.due("the lowest", map.paint(0, 0, 0), FourTints.SEA);
        CHECK.due("the highest", map.paint(0, 0, 9), 0);
        CHECK.due("the sea", map.paint(0, 0, FourTints.SEA), 9);
        CHECK.due("the lowest again", map.paint(0, 0, 0), FourTints.SEA);
    }

    private static void paintReturnsTheCountryBefore() {
        CHECK.sentence("2: returns the country that the cell belonged to");
        FourTints map = new FourTints();
        map.paintBlock(0, 0, 5, 5, 9);
        CHECK.due("another country's", map.paint(5, 5, 0), 9);
        CHECK.due("its own", map.paint(5, 5, 0), 0);
        CHECK.due("one cell alone was painted", map.area(9), 35);
        CHECK.due("it was this one", map.countryAt(5, 5), 0);
    }

    private static void paintReturnsSeaIfItWasSea() {
        CHECK.sentence("2: SEA if it was sea");
        FourTints map = new FourTints();
        CHECK.due("sea at first, painted as sea", map.paint(0, 5, FourTints.SEA), FourTints.SEA);
        CHECK.due("sea at first", map.paint(0, 5, 9), FourTints.SEA);
        map.paint(0, 5, FourTints.SEA);
        CHECK.due("sea again", map.paint(0, 5, 0), FourTints.SEA);
    }

    private static void paintWithoutSuchARow() {
        CHECK.sentence("2: throws IndexOutOfBoundsException if there is no such row");
        FourTints map = Maps.of(Maps.WHEEL);
        for (int row : NO_LINE) {
            CHECK.dueThrow("row " + row, map, BOUNDS, () -> map.paint(row, 0, 9));
            CHECK.dueThrow("row " + row + ", sea", map, BOUNDS, () -> map.paint(row, 5, FourTints.SEA));
            CHECK.dueThrow("row and column " + row, map, BOUNDS, () -> map.paint(row, row, 9));
            CHECK.dueThrow("row " + row + " and no country", map, BOUNDS, () -> map.paint(row, 0, 10));
        }
        CHECK.due("the first row", map.paint(0, 3, 9), 2);
        CHECK.due("the last row", map.paint(5, 3, 9), 4);
    }

    private static void paintWithoutSuchAColumn() {
        CHECK.sentence("2: throws IndexOutOfBoundsException if there is no such column");
        FourTints map = Maps.of(Maps.WHEEL);
        for (int column : NO_LINE) {
            CHECK.dueThrow("column " + column, map, BOUNDS, () -> map.paint(0, column, 9));
            CHECK.dueThrow("column " + column + ", sea", map, BOUNDS, () -> map.paint(5, column, FourTints.SEA));
            CHECK.dueThrow("column " + column + " and no country", map, BOUNDS, () -> map.paint(0, column, -2));
        }
        CHECK.due("the first column", map.paint(3, 0, 9), 5);
        CHECK.due("the last column", map.paint(3, 5, 9), 3);
    }

    private static void paintWithCountryOutOfRange() {
        CHECK.sentence("2: throws IllegalArgumentException if country is out of range");
        FourTints map = Maps.of(Maps.WHEEL);
        for (int country : NO_PAINT) {
            CHECK.dueThrow("country " + country, map, ARGUMENT, () -> map.paint(0, 0, country));
            CHECK.dueThrow("country " + country, map, ARGUMENT, () -> map.paint(5, 5, country));
        }
    }

    private static void blockFromARowToAnotherOne() {
        CHECK.sentence("3: paints all cells from a row to another one and from a column to another one");
        FourTints map = new FourTints();
        CHECK.due("one cell", map.paintBlock(3, 4, 3, 4, 1), 1);
        CHECK.due("one cell", Maps.drawingOf(map), "....../....../....../....1./....../....../");
        CHECK.due("one row, to the last column", map.paintBlock(5, 1, 5, 5, 2), 5);
        CHECK.due("one column, from the first row", map.paintBlock(0, 0, 4, 0, 3), 5);
        CHECK.due("both lines", Maps.drawingOf(map), "3...../3...../3...../3...1./3...../.22222/");
        CHECK.due("two by two in the corner", map.paintBlock(0, 4, 1, 5, 4), 4);
        CHECK.due("two by two", Maps.drawingOf(map), "3...44/3...44/3...../3...1./3...../.22222/");
        CHECK.due("the whole map", map.paintBlock(0, 0, 5, 5, 5), 36);
        CHECK.due("the whole map", Maps.drawingOf(map), "555555/555555/555555/555555/555555/555555/");
    }

    private static void blockTakesZeroToNineOrSea() {
        CHECK.sentence("3: country: 0 to 9, or SEA");
        FourTints map = new FourTints();
        CHECK.due("the lowest", map.paintBlock(0, 0, 0, 2, 0), 3);
        CHECK.due("the highest", map.paintBlock(0, 0, 0, 2, 9), 3);
        CHECK.due("the sea", map.paintBlock(0, 0, 0, 2, FourTints.SEA), 3);
        CHECK.due("all is sea", map.countries(), 0);
    }

    private static void blockCountsOtherCountriesAndSea() {
        CHECK.sentence("3: returns how many cells belonged to another country, or were sea, before");
        FourTints map = Maps.of("112233", "......", "......", "......", "......", "......");
        CHECK.due("none: all its own", map.paintBlock(0, 2, 0, 3, 2), 0);
        CHECK.due("its own, another country's and sea", map.paintBlock(0, 1, 1, 2, 2), 3);
        CHECK.due("other countries' alone", map.paintBlock(0, 0, 0, 5, 9), 6);
        CHECK.due("sea alone", map.paintBlock(2, 0, 5, 5, 9), 24);
        CHECK.due("all: none were its own", map.paintBlock(0, 0, 5, 5, 0), 36);
        CHECK.due("none again", map.paintBlock(0, 0, 5, 5, 0), 0);
    }

    private static void blockOfSeaCountsWhatWasNotSea() {
        CHECK.sentence("3: for SEA: how many were not sea");
        FourTints map = Maps.of("1122..", "......", "......", "......", "......", ".....9");
        CHECK.due("none were land", map.paintBlock(1, 0, 4, 5, FourTints.SEA), 0);
        CHECK.due("some were land", map.paintBlock(0, 1, 1, 5, FourTints.SEA), 3);
        CHECK.due("two are left", map.paintBlock(0, 0, 5, 5, FourTints.SEA), 2);
        for (int country = 0; country < Maps.COUNTRIES; country++) {
            map.paintBlock(0, 0, 5, 5, country);
            CHECK.due("all were land of " + country, map.paintBlock(0, 0, 5, 5, FourTints.SEA), 36);
        }
    }

    private static void blockWithoutSuchARow() {
        CHECK.sentence("3: throws IndexOutOfBoundsException if there is no such row");
        FourTints map = Maps.of(Maps.WHEEL);
        for (int row : NO_LINE) {
            CHECK.dueThrow("row " + row, map, BOUNDS, () -> map.paintBlock(row, 0, 5, 5, 9));
            CHECK.dueThrow("toRow " + row, map, BOUNDS, () -> map.paintBlock(0, 0, row, 5, 9));
            CHECK.dueThrow("row and toRow " + row, map, BOUNDS, () -> map.paintBlock(row, 0, row, 5, 9));
            CHECK.dueThrow("toRow " + row + ", sea", map, BOUNDS, () -> map.paintBlock(5, 5, row, 5, FourTints.SEA));
            CHECK.dueThrow("row " + row + " and no country", map, BOUNDS, () -> map.paintBlock(row, 0, 5, 5, 10));
            CHECK.dueThrow("toRow " + row + " and no country", map, BOUNDS, () -> map.paintBlock(0, 0, row, 5, 10));
            CHECK.dueThrow("row " + row + " and columns turned", map, BOUNDS, () -> map.paintBlock(row, 3, 5, 2, 9));
        }
    }

    private static void blockWithoutSuchAColumn() {
        CHECK.sentence("3: throws IndexOutOfBoundsException if there is no such column");
        FourTints map = Maps.of(Maps.WHEEL);
        for (int column : NO_LINE) {
            CHECK.dueThrow("column " + column, map, BOUNDS, () -> map.paintBlock(0, column, 5, 5, 9));
            CHECK.dueThrow("toColumn " + column, map, BOUNDS, () -> map.paintBlock(0, 0, 5, column, 9));
            CHECK.dueThrow("both columns " + column, map, BOUNDS, () -> map.paintBlock(0, column, 5, column, 9));
            CHECK.dueThrow("toColumn " + column + " and no country", map, BOUNDS, () -> map.paintBlock(0, 0, 5, column, -2));
            CHECK.dueThrow("toColumn " + column + " and rows turned", map, BOUNDS, () -> map.paintBlock(3, 0, 2, column, 9));
        }
    }

    private static void blockWithCountryOutOfRange() {
        CHECK.sentence("3: throws IllegalArgumentException if country is out of range");
        FourTints map = Maps.of(Maps.WHEEL);
        for (int country : NO_PAINT) {
            CHECK.dueThrow("country " + country, map, ARGUMENT, () -> map.paintBlock(0, 0, 5, 5, country));
            CHECK.dueThrow("country " + country + ", a cell", map, ARGUMENT, () -> map.paintBlock(5, 0, 5, 0, country));
        }
    }

    private static void blockWithToRowLessThanRow() {
        CHECK.sentence("3: throws IllegalArgumentException if toRow is less than row");
        FourTints map = Maps.of(Maps.WHEEL);
        CHECK.dueThrow("less by one", map, ARGUMENT, () -> map.paintBlock(1, 0, 0, 5, 9));
        CHECK.dueThrow("less by one, in one column", map, ARGUMENT, () -> map.paintBlock(5, 2, 4, 2, 9));
        CHECK.dueThrow("less by five", map, ARGUMENT, () -> map.paintBlock(5, 0, 0, 5, FourTints.SEA));
        CHECK.due("the same row is not less", map.paintBlock(5, 2, 5, 2, 9), 1);
    }

    private static void blockWithToColumnLessThanColumn() {
        CHECK.sentence("3: throws IllegalArgumentException if toColumn is less than column");
        FourTints map = Maps.of(Maps.WHEEL);
        CHECK.dueThrow("less by one", map, ARGUMENT, () -> map.paintBlock(0, 1, 5, 0, 9));
        CHECK.dueThrow("less by one, in one row", map, ARGUMENT, () -> map.paintBlock(2, 5, 2, 4, 9));
        CHECK.dueThrow("less by five", map, ARGUMENT, () -> map.paintBlock(0, 5, 5, 0, FourTints.SEA));
        CHECK.due("the same column is not less", map.paintBlock(2, 5, 2, 5, 9), 1);
    }

    private static void countryAtACell() {
        CHECK.sentence("4: returns the country of a cell");
        FourTints map = Maps.of("0....9", "......", "......", "......", "......", "9....0");
        CHECK.due("first row, first column", map.countryAt(0, 0), 0);
        CHECK.due("first row, last column", map.countryAt(0, 5), 9);
        CHECK.due("last row, first column", map.countryAt(5, 0), 9);
        CHECK.due("last row, last column", map.countryAt(5, 5), 0);
    }

    private static void countryAtTheSea() {
        CHECK.sentence("4: SEA if it is sea");
        FourTints map = Maps.of("000000", "000000", "00.000", "000000", "000000", "000000");
        CHECK.due("sea amid land", map.countryAt(2, 2), FourTints.SEA);
        CHECK.due("land beside it", map.countryAt(2, 3), 0);
        CHECK.due("sea of a new map", new FourTints().countryAt(5, 5), FourTints.SEA);
    }

    private static void countryAtWithoutSuchARowOrColumn() {
        CHECK.sentence("4: throws IndexOutOfBoundsException if there is no such row or column");
        FourTints map = Maps.of(Maps.WHEEL);
        for (int line : NO_LINE) {
            CHECK.dueThrow("row " + line, map, BOUNDS, () -> map.countryAt(line, 5));
            CHECK.dueThrow("column " + line, map, BOUNDS, () -> map.countryAt(5, line));
            CHECK.dueThrow("both " + line, map, BOUNDS, () -> map.countryAt(line, line));
        }
    }
}
