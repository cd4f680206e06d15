/** One test for each sentence on a boundary case under "What it is", "Terms" and promise 1. */
public final class TermsSentencesTest {
    private static final Class<IndexOutOfBoundsException> BOUNDS = IndexOutOfBoundsException.class;
    private static final Class<IllegalArgumentException> ARGUMENT = IllegalArgumentException.class;
    private static final Class<IllegalStateException> STATE = IllegalStateException.class;

    private static final int MOST_CALLS = 512;

    private static final Check CHECK = new Check("TermsSentencesTest");

    public static void main(String[] args) {
        atMost512Calls();
        sixRowsAndSixColumns();
        countriesZeroToNine();
        allSeaAtFirst();
        sideBySideOrAboveOneAnother();
        thereIfItHasACell();
        largestSetsOfCells();
        twoUnlikeCountries();
        tintsOneToTen();
        noTintAtFirst();
        whetherItIsThereOrNot();
        conflictsNotCountingNone();
        tintingsUpToTheNumber();
        chainOfACountryAndATint();
        chainOfThoseThatAreThere();
        severalExceptions();
        aCallThatThrowsChangesNothing();
        theConstants();
        CHECK.end();
    }

    private static void atMost512Calls() {
        CHECK.sentence("What it is: an object is used for at most 512 calls");
        FourTints map = new FourTints();
        int calls = 0;
        for (int country = 0; country < Maps.COUNTRIES; country++) {
            map.paint(country / 3 * 2 - country / 9, country % 3 * 2 + country / 9, country);
            calls++;
        }
        while (calls < MOST_CALLS - 2) {
            CHECK.due("call " + calls, map.tintingsByPairs(10), 10_000_000_000L);
            CHECK.due("call " + (calls + 1), map.tintings(10), 10_000_000_000L);
            calls += 2;
        }
        CHECK.due("the call before the last", map.paint(5, 1, 0), 9);
        CHECK.due("the last call", map.countries(), 9);
    }

    private static void sixRowsAndSixColumns() {
        CHECK.sentence("Terms: the map has 6 rows and 6 columns of cells, numbered from 0");
        FourTints map = new FourTints();
        int[][] corners = {{0, 0}, {0, 5}, {5, 0}, {5, 5}};
        for (int[] corner : corners) {
            CHECK.due("paint in a corner", map.paint(corner[0], corner[1], 1), FourTints.SEA);
            CHECK.due("the corner", map.countryAt(corner[0], corner[1]), 1);
        }
        CHECK.due("four corners", map.area(1), 4);
        CHECK.due("all other cells", map.paintBlock(0, 0, 5, 5, 1), 32);
        CHECK.due("all cells", map.area(1), 36);
        int[] beyond = {-1, 6};
        for (int line : beyond) {
            CHECK.dueThrow("row " + line, map, BOUNDS, () -> map.countryAt(line, 0));
            CHECK.dueThrow("column " + line, map, BOUNDS, () -> map.countryAt(0, line));
        }
    }

    private static void countriesZeroToNine() {
        CHECK.sentence("Terms: a cell belongs to a country, 0 to 9, or is sea");
        FourTints map = new FourTints();
        for (int country = 0; country < Maps.COUNTRIES; country++) {
            map.paint(3, 3, country);
            CHECK.due("countryAt", map.countryAt(3, 3), country);
            CHECK.due("one country has the cell", map.countries(), 1);
        }
        map.paint(3, 3, FourTints.SEA);
        CHECK.due("countryAt the sea", map.countryAt(3, 3), FourTints.SEA);
        CHECK.due("the sea is no country", map.countries(), 0);
    }

    private static void allSeaAtFirst() {
        CHECK.sentence("Terms and 1: all cells are sea at first");
        FourTints map = new FourTints();
        for (int row = 0; row < Maps.SIZE; row++) {
            for (int column = 0; column < Maps.SIZE; column++) {
                CHECK.due("countryAt(" + row + ", " + column + ")", map.countryAt(row, column), FourTints.SEA);
            }
        }
        CHECK.due("cells that are not sea", map.paintBlock(0, 0, 5, 5, FourTints.SEA), 0);
    }

    private static void sideBySideOrAboveOneAnother() {
        CHECK.sentence("Terms: two cells touch if they are side by side or one above the other");
        CHECK.due("side by side", pairAt(2, 2, 2, 3), 1);
        CHECK.due("one above the other", pairAt(2, 2, 3, 2), 1);
        CHECK.due("in the last row", pairAt(5, 4, 5, 5), 1);
        CHECK.due("in the last column", pairAt(4, 5, 5, 5), 1);
        CHECK.due("corner to corner, downwards", pairAt(2, 2, 3, 3), 0);
        CHECK.due("corner to corner, upwards", pairAt(2, 2, 1, 3), 0);
        CHECK.due("with a cell between, in a row", pairAt(2, 2, 2, 4), 0);
        CHECK.due("with a cell between, in a column", pairAt(2, 2, 4, 2), 0);
        CHECK.due("a row's end and the next row's beginning", pairAt(2, 5, 3, 0), 0);
        CHECK.due("a row's beginning and its end", pairAt(2, 0, 2, 5), 0);
        CHECK.due("a column's beginning and its end", pairAt(0, 2, 5, 2), 0);
        CHECK.due("the first cell and the last", pairAt(0, 0, 5, 5), 0);
    }

    /** The length of the border of two countries of a cell each, looked at from both. */
    private static int pairAt(int row, int column, int otherRow, int otherColumn) {
        FourTints map = new FourTints();
        map.paint(row, column, 0);
        map.paint(otherRow, otherColumn, 9);
        CHECK.due("the same from the other one", map.border(9, 0), map.border(0, 9));
        CHECK.due("neighbours of 0", map.neighbours(0), map.border(0, 9));
        CHECK.due("neighbours of 9", map.neighbours(9), map.border(0, 9));
        return map.border(0, 9);
    }

    private static void thereIfItHasACell() {
        CHECK.sentence("Terms: a country is there if it has a cell");
        FourTints map = new FourTints();
        map.tint(6, 1);
        CHECK.due("without a cell", map.countries(), 0);
        map.paint(5, 0, 6);
        CHECK.due("with one cell", map.countries(), 1);
        CHECK.due("with one cell: chain", map.chain(6, 1), 1);
        map.paint(5, 0, 7);
        CHECK.due("its last cell is another's: countries", map.countries(), 1);
        CHECK.dueThrow("its last cell is another's: chain", map, STATE, () -> map.chain(6, 1));
        map.paint(5, 0, 6);
        CHECK.due("there again: chain", map.chain(6, 1), 1);
        map.paintBlock(5, 0, 5, 0, FourTints.SEA);
        CHECK.due("its last cell is sea: countries", map.countries(), 0);
        CHECK.dueThrow("its last cell is sea: chain", map, STATE, () -> map.chain(6, 1));
    }

    private static void largestSetsOfCells() {
        CHECK.sentence("Terms: pieces are the largest sets in which one can go over cells of the set that touch");
        FourTints map = Maps.of("11....", "1.1...", ".11...", "......", ".....1", "1.....");
        CHECK.due("pieces", map.pieces(1), 4);
        map.paint(1, 1, 1);
        CHECK.due("one cell joins two", map.pieces(1), 3);
        CHECK.due("the joined one", map.largestPiece(1), 7);
        map.paint(1, 1, 2);
        CHECK.due("another country's cell is no way", map.pieces(1), 4);
    }

    private static void twoUnlikeCountries() {
        CHECK.sentence("Terms: two unlike countries are neighbours if a cell of the one touches a cell of the other");
        FourTints map = Maps.of("111111", "111111", "......", "......", "......", ".....9");
        CHECK.due("a country is no neighbour of itself", map.neighbours(1), 0);
        CHECK.due("nor is the sea", map.neighbours(9), 0);
        map.paint(2, 5, 9);
        CHECK.due("one cell of many is enough", map.neighbours(1), 1);
        CHECK.due("for both", map.neighbours(9), 1);
        map.paint(2, 5, FourTints.SEA);
        CHECK.due("apart again", map.neighbours(1), 0);
        CHECK.due("apart again, both", map.neighbours(9), 0);
    }

    private static void tintsOneToTen() {
        CHECK.sentence("Terms: each country has a tint, 1 to 10, or none (told as 0)");
        FourTints map = Maps.of(Maps.APART);
        for (int country = 0; country < Maps.COUNTRIES; country++) {
            for (int tint = 10; tint >= 0; tint--) {
                map.tint(country, tint);
                CHECK.due("tintOf(" + country + ")", map.tintOf(country), tint);
            }
        }
    }

    private static void noTintAtFirst() {
        CHECK.sentence("Terms: none at first");
        FourTints map = new FourTints();
        for (int country = 0; country < Maps.COUNTRIES; country++) {
            CHECK.due("tintOf(" + country + ") of a new object", map.tintOf(country), 0);
        }
        map.paintBlock(0, 0, 5, 5, 9);
        CHECK.due("tintOf(9), painted", map.tintOf(9), 0);
    }

    private static void whetherItIsThereOrNot() {
        CHECK.sentence("Terms: a country has a tint whether it is there or not");
        FourTints map = new FourTints();
        map.tint(0, 10);
        map.paintBlock(0, 0, 5, 5, 0);
        CHECK.due("once it is there", map.tintOf(0), 10);
        map.paintBlock(0, 0, 5, 5, FourTints.SEA);
        CHECK.due("once it is there no more", map.tintOf(0), 10);
        map.paint(0, 0, 0);
        CHECK.due("once it is there again", map.tintOf(0), 10);
    }

    private static void conflictsNotCountingNone() {
        CHECK.sentence("Terms: a conflict is a pair of neighbours with the same tint, not counting none");
        FourTints map = Maps.of("12....", "......", "......", "......", "......", "1....2");
        CHECK.due("both without", map.conflicts(), 0);
        map.tint(1, 10);
        CHECK.due("one without", map.conflicts(), 0);
        map.tint(2, 10);
        CHECK.due("both with the same", map.conflicts(), 1);
        map.tint(2, 9);
        CHECK.due("with unlike ones", map.conflicts(), 0);
        map.tint(2, 10);
        map.paint(0, 1, FourTints.SEA);
        CHECK.due("the same, but no neighbours", map.conflicts(), 0);
    }

    private static void tintingsUpToTheNumber() {
        CHECK.sentence("Terms: a tinting gives each country that is there a tint from 1 up to the number");
        FourTints map = Maps.of("3.....", "......", "......", "......", "......", ".....8");
        CHECK.due("with no tints", map.tintings(0), 0);
        CHECK.due("with one", map.tintings(1), 1);
        CHECK.due("with two: not all need be used", map.tintings(2), 4);
        CHECK.due("with ten", map.tintings(10), 100);
        map.tint(3, 7);
        CHECK.due("tints that are worn do not count", map.tintings(2), 4);
        map.paint(0, 1, 8);
        CHECK.due("neighbours with no tints", map.tintings(0), 0);
        CHECK.due("neighbours with one", map.tintings(1), 0);
        CHECK.due("neighbours with two", map.tintings(2), 2);
        CHECK.due("neighbours with ten", map.tintings(10), 90);
    }

    private static void chainOfACountryAndATint() {
        CHECK.sentence("Terms: the chain is the country, and all to which one can go over its tint or that tint");
        FourTints map = Maps.of("012345", "......", "......", "......", "......", "......");
        Maps.tintAll(map, 1, 2, 1, 3, 1, 2);
        CHECK.due("no neighbour has either tint", map.chain(0, 10), 1);
        CHECK.due("up to a third tint", map.chain(0, 2), 3);
        CHECK.due("behind a third tint", map.chain(5, 1), 2);
        CHECK.due("with the third tint", map.chain(3, 1), 3);
        CHECK.due("with its own tint", map.chain(2, 1), 1);
        map.tint(3, 0);
        CHECK.due("up to one without a tint", map.chain(0, 2), 3);
        Maps.tintAll(map, 2, 2, 2, 2, 2, 2);
        CHECK.due("all, with their own tint", map.chain(5, 2), 6);
        CHECK.due("all, with another one", map.chain(5, 10), 6);
    }

    private static void chainOfThoseThatAreThere() {
        CHECK.sentence("Terms: all countries that are there to which one can go");
        FourTints map = Maps.of("01.345", "......", "......", "......", "......", "......");
        Maps.tintAll(map, 1, 2, 1, 2, 1, 2, 1, 2, 1, 2);
        CHECK.due("2 is not there", map.chain(0, 2), 2);
        CHECK.due("from the other side", map.chain(5, 1), 3);
        map.paint(0, 2, 2);
        CHECK.due("2 is there", map.chain(0, 2), 6);
    }

    private static void severalExceptions() {
        CHECK.sentence("Terms: of several exceptions the one that the throws clause names first");
        FourTints map = Maps.of(Maps.WHEEL);
        CHECK.dueThrow("paint, bounds and argument", map, BOUNDS, () -> map.paint(0, 6, 10));
        CHECK.dueThrow("paintBlock, bounds and country", map, BOUNDS, () -> map.paintBlock(0, 0, 6, 0, -2));
        CHECK.dueThrow("paintBlock, bounds and order", map, BOUNDS, () -> map.paintBlock(1, 0, 0, 6, 1));
        CHECK.dueThrow("paintBlock, bounds that are the order too", map, BOUNDS, () -> map.paintBlock(0, 0, -1, 0, 1));
        CHECK.dueThrow("tint, bounds and argument", map, BOUNDS, () -> map.tint(10, 11));
        CHECK.dueThrow("chain, bounds and argument", map, BOUNDS, () -> map.chain(-1, 0));
        CHECK.dueThrow("chain, argument and state", map, ARGUMENT, () -> map.chain(9, 11));
        CHECK.dueThrow("exchange, bounds and argument", map, BOUNDS, () -> map.exchange(10, 11));
        CHECK.dueThrow("exchange, argument and state", map, ARGUMENT, () -> map.exchange(0, 0));
    }

    private static void aCallThatThrowsChangesNothing() {
        CHECK.sentence("Terms: a call that throws changes nothing");
        FourTints map = Maps.of(Maps.WHEEL);
        Maps.tintAll(map, 1, 2, 3, 2, 3, 4, 0, 9);
        CHECK.dueThrow("paint", map, ARGUMENT, () -> map.paint(2, 2, 10));
        CHECK.dueThrow("paintBlock with no such row", map, BOUNDS, () -> map.paintBlock(0, 0, 6, 5, 7));
        CHECK.dueThrow("paintBlock with no country", map, ARGUMENT, () -> map.paintBlock(0, 0, 5, 5, -2));
        CHECK.dueThrow("paintBlock in one column the wrong way", map, ARGUMENT, () -> map.paintBlock(1, 3, 0, 3, 7));
        CHECK.dueThrow("tint", map, ARGUMENT, () -> map.tint(0, 11));
        CHECK.dueThrow("exchange with no tint", map, ARGUMENT, () -> map.exchange(0, 11));
        CHECK.dueThrow("exchange of one not there", map, STATE, () -> map.exchange(7, 1));
        CHECK.dueThrow("tintings", map, ARGUMENT, () -> map.tintings(11));
        CHECK.dueThrow("tintingsByPairs", map, ARGUMENT, () -> map.tintingsByPairs(-1));
        CHECK.due("countries behind them all", map.countries(), 6);
        CHECK.due("neighbours behind them all", map.neighbours(0), 5);
        CHECK.due("the tinting behind them all", map.isTinted(), true);
        CHECK.due("the tintings behind them all", map.tintings(4), 120);
    }

    private static void theConstants() {
        CHECK.sentence("Terms: NONE = -1 and SEA = -1");
        CHECK.due("NONE", FourTints.NONE, -1);
        CHECK.due("SEA", FourTints.SEA, -1);
        FourTints map = new FourTints();
        CHECK.due("the sea is told as -1", map.paint(0, 0, 0), -1);
        CHECK.due("-1 is painted as sea", map.paint(0, 0, -1), 0);
        CHECK.due("the cell is sea", map.countryAt(0, 0), -1);
    }
}
