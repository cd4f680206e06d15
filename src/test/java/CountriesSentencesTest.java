/** One test for each sentence on a boundary case in promises 5 to 13. */
public final class CountriesSentencesTest {
    private static final Class<IndexOutOfBoundsException> BOUNDS = IndexOutOfBoundsException.class;
    private static final int[] NO_COUNTRY = {-1, 10, Integer.MIN_VALUE, Integer.MAX_VALUE};

    /** All ten countries, each in pieces of one cell: 0 to 5 in four of them, 6 to 9 in three. */
    private static final String[] CRUMBS = {
        "012345",
        "678901",
        "234567",
        "890123",
        "456789",
        "012345"};

    private static final Check CHECK = new Check("CountriesSentencesTest");

    public static void main(String[] args) {
        countriesFromNoneToTen();
        areaFromNothingToTheWholeMap();
        areaOutOfRange();
        oneCellAlone();
        piecesFromNoneToEighteen();
        piecesOutOfRange();
        largestPieceOfOneThere();
        largestPieceIfNotThere();
        largestPieceOutOfRange();
        scatteredWithMoreThanOnePiece();
        neighboursFromNoneToNine();
        neighboursOutOfRange();
        borderCountsPairsOfTouchingCells();
        borderOfACountryAndItself();
        borderOutOfRange();
        enclosedSeaAndOtherCountries();
        enclosedAndTheEdgeOfTheMap();
        enclosedOverTouchingCells();
        enclosedOutOfRange();
        allNeighboursGreatestNumber();
        allNeighboursIfNoTwoAreNeighbours();
        allNeighboursIfNoneAreThere();
        CHECK.end();
    }

    private static FourTints allOf(int country) {
        FourTints map = new FourTints();
        map.paintBlock(0, 0, 5, 5, country);
        return map;
    }

    private static void countriesFromNoneToTen() {
        CHECK.sentence("5: returns how many countries are there");
        FourTints map = new FourTints();
        CHECK.due("none", map.countries(), 0);
        for (int country = 0; country < Maps.COUNTRIES; country++) {
            map.paint(country / 6, country % 6, country);
            CHECK.due("one more", map.countries(), country + 1);
        }
        map.paint(5, 5, 9);
        CHECK.due("a second cell is no more", map.countries(), 10);
        map.paintBlock(0, 0, 5, 5, 9);
        CHECK.due("one alone", map.countries(), 1);
        map.paintBlock(0, 0, 5, 5, FourTints.SEA);
        CHECK.due("none again", map.countries(), 0);
    }

    private static void areaFromNothingToTheWholeMap() {
        CHECK.sentence("6: returns how many cells a country has");
        FourTints map = new FourTints();
        CHECK.due("none of the lowest", map.area(0), 0);
        CHECK.due("none of the highest", map.area(9), 0);
        map.paint(0, 0, 0);
        map.paint(5, 5, 9);
        CHECK.due("one of the lowest", map.area(0), 1);
        CHECK.due("one of the highest", map.area(9), 1);
        CHECK.due("all", allOf(9).area(9), 36);
        CHECK.due("all are another's", allOf(9).area(0), 0);
        CHECK.due("over all pieces", Maps.of(CRUMBS).area(5), 4);
    }

    private static void areaOutOfRange() {
        CHECK.sentence("6: throws IndexOutOfBoundsException if country is not 0 to 9");
        FourTints map = new FourTints();
        for (int country : NO_COUNTRY) {
            CHECK.dueThrow("area(" + country + ")", map, BOUNDS, () -> map.area(country));
        }
    }

    private static void oneCellAlone() {
        CHECK.sentence("5 to 13: a country of one cell, wherever it lies");
        for (int cell = 0; cell < Maps.SIZE * Maps.SIZE; cell++) {
            FourTints map = new FourTints();
            int country = cell % Maps.COUNTRIES;
            map.paint(cell / Maps.SIZE, cell % Maps.SIZE, country);
            String where = "cell " + cell + ", country " + country + ": ";
            CHECK.due(where + "countries", map.countries(), 1);
            CHECK.due(where + "area", map.area(country), 1);
            CHECK.due(where + "pieces", map.pieces(country), 1);
            CHECK.due(where + "largestPiece", map.largestPiece(country), 1);
            CHECK.due(where + "scattered", map.scattered(), 0);
            CHECK.due(where + "neighbours", map.neighbours(country), 0);
            CHECK.due(where + "enclosed", map.enclosed(country), 0);
            CHECK.due(where + "allNeighbours", map.allNeighbours(), 1);
        }
    }

    private static void piecesFromNoneToEighteen() {
        CHECK.sentence("7: returns how many pieces a country has");
        CHECK.due("none of the lowest", new FourTints().pieces(0), 0);
        CHECK.due("none of the highest", new FourTints().pieces(9), 0);
        CHECK.due("one, the whole map", allOf(0).pieces(0), 1);
        FourTints map = Maps.of(CRUMBS);
        CHECK.due("four of one cell", map.pieces(0), 4);
        CHECK.due("three of one cell", map.pieces(9), 3);
        FourTints board = Maps.of("0.0.0.", ".0.0.0", "0.0.0.", ".0.0.0", "0.0.0.", ".0.0.0");
        CHECK.due("as many as there can be", board.pieces(0), 18);
        FourTints rows = Maps.of("......", "....99", "99....", "......", "9....9", "......");
        CHECK.due("no piece goes on around the edge", rows.pieces(9), 4);
    }

    private static void piecesOutOfRange() {
        CHECK.sentence("7: throws IndexOutOfBoundsException if country is not 0 to 9");
        FourTints map = new FourTints();
        for (int country : NO_COUNTRY) {
            CHECK.dueThrow("pieces(" + country + ")", map, BOUNDS, () -> map.pieces(country));
        }
    }

    private static void largestPieceOfOneThere() {
        CHECK.sentence("8: returns how many cells the largest piece of a country has");
        CHECK.due("the whole map", allOf(0).largestPiece(0), 36);
        CHECK.due("pieces of one cell", Maps.of(CRUMBS).largestPiece(9), 1);
        CHECK.due("the first is the largest", Maps.of("111.11", "......", "1.....", "......", "......", "......").largestPiece(1), 3);
        CHECK.due("the last is the largest", Maps.of("1.11..", "......", "......", "......", "......", "...111").largestPiece(1), 3);
        CHECK.due("of two as large as each other", Maps.of("11....", "......", "......", "......", "......", "....11").largestPiece(1), 2);
        CHECK.due("two halves that meet at a corner", Maps.of("999...", "999...", "999...", "...999", "...999", "...999").largestPiece(9), 9);
    }

    private static void largestPieceIfNotThere() {
        CHECK.sentence("8: 0 if it is not there");
        FourTints map = new FourTints();
        CHECK.due("never there", map.largestPiece(0), 0);
        map.paintBlock(0, 0, 5, 5, 9);
        CHECK.due("another is there", map.largestPiece(0), 0);
        map.paintBlock(0, 0, 5, 5, FourTints.SEA);
        CHECK.due("there no more", map.largestPiece(9), 0);
    }

    private static void largestPieceOutOfRange() {
        CHECK.sentence("8: throws IndexOutOfBoundsException if country is not 0 to 9");
        FourTints map = new FourTints();
        for (int country : NO_COUNTRY) {
            CHECK.dueThrow("largestPiece(" + country + ")", map, BOUNDS, () -> map.largestPiece(country));
        }
    }

    private static void scatteredWithMoreThanOnePiece() {
        CHECK.sentence("9: returns how many countries have more than one piece");
        CHECK.due("none are there", new FourTints().scattered(), 0);
        CHECK.due("one piece is not more than one", allOf(0).scattered(), 0);
        CHECK.due("ten of one piece", Maps.of(Maps.APART).scattered(), 0);
        CHECK.due("the lowest in two", Maps.of("0.0...", "......", "......", "......", "......", "......").scattered(), 1);
        CHECK.due("the highest in two", Maps.of("9.....", ".9....", "......", "......", "......", "......").scattered(), 1);
        CHECK.due("the sea in two", Maps.of("......", "111111", "......", "......", "......", "......").scattered(), 0);
        CHECK.due("all ten in more than one", Maps.of(CRUMBS).scattered(), 10);
    }

    private static void neighboursFromNoneToNine() {
        CHECK.sentence("10: returns how many neighbours a country has");
        CHECK.due("one not there", new FourTints().neighbours(0), 0);
        CHECK.due("the whole map", allOf(9).neighbours(9), 0);
        CHECK.due("sea around it", Maps.of(Maps.APART).neighbours(9), 0);
        FourTints ten = Maps.of(Maps.ALL_TEN);
        for (int country = 0; country < Maps.COUNTRIES; country++) {
            CHECK.due("all the others", ten.neighbours(country), 9);
        }
        FourTints pieces = Maps.of("1.2...", "......", "2.....", "12....", "......", "3.1...");
        CHECK.due("one that is met twice", pieces.neighbours(1), 1);
        CHECK.due("one piece that meets none", pieces.neighbours(3), 0);
    }

    private static void neighboursOutOfRange() {
        CHECK.sentence("10: throws IndexOutOfBoundsException if country is not 0 to 9");
        FourTints map = new FourTints();
        for (int country : NO_COUNTRY) {
            CHECK.dueThrow("neighbours(" + country + ")", map, BOUNDS, () -> map.neighbours(country));
        }
    }

    private static void borderCountsPairsOfTouchingCells() {
        CHECK.sentence("11: how many pairs of touching cells there are, one of each country");
        CHECK.due("none are there", new FourTints().border(0, 9), 0);
        CHECK.due("one is there", allOf(0).border(0, 9), 0);
        CHECK.due("a cell inside has four pairs", Maps.of("000000", "000000", "009000", "000000", "000000", "000000").border(9, 0), 4);
        CHECK.due("a cell at the edge has three", Maps.of("000000", "000000", "900000", "000000", "000000", "000000").border(9, 0), 3);
        CHECK.due("a cell in a corner has two", Maps.of("000000", "000000", "000000", "000000", "000000", "000009").border(0, 9), 2);
        FourTints board = Maps.of("090909", "909090", "090909", "909090", "090909", "909090");
        CHECK.due("all sixty pairs of the map", board.border(0, 9), 60);
        CHECK.due("all sixty pairs, asked the other way", board.border(9, 0), 60);
        CHECK.due("around the edge of the map", Maps.of("0....9", "......", "......", ".....0", "9.....", "......").border(0, 9), 0);
    }

    private static void borderOfACountryAndItself() {
        CHECK.sentence("11: for a country and itself 0");
        FourTints map = Maps.of("000000", "000000", "000000", "111111", "111111", "999999");
        CHECK.due("the lowest", map.border(0, 0), 0);
        CHECK.due("the highest", map.border(9, 9), 0);
        CHECK.due("one not there", map.border(5, 5), 0);
        CHECK.due("the whole map", allOf(3).border(3, 3), 0);
    }

    private static void borderOutOfRange() {
        CHECK.sentence("11: throws IndexOutOfBoundsException if country or other is not 0 to 9");
        FourTints map = Maps.of(CRUMBS);
        for (int country : NO_COUNTRY) {
            CHECK.dueThrow("border(" + country + ", 9)", map, BOUNDS, () -> map.border(country, 9));
            CHECK.dueThrow("border(9, " + country + ")", map, BOUNDS, () -> map.border(9, country));
            CHECK.dueThrow("border of " + country + " and itself", map, BOUNDS, () -> map.border(country, country));
        }
    }

    private static void enclosedSeaAndOtherCountries() {
        CHECK.sentence("12: sea and cells of other countries from which one cannot come to the edge");
        CHECK.due("one not there", new FourTints().enclosed(0), 0);
        CHECK.due("the whole map", allOf(9).enclosed(9), 0);
        CHECK.due("sea", Maps.of("......", ".000..", ".0.0..", ".000..", "......", "......").enclosed(0), 1);
        CHECK.due("another country", Maps.of("......", ".000..", ".010..", ".000..", "......", "......").enclosed(0), 1);
        CHECK.due("both", Maps.of("......", ".0000.", ".01.0.", ".0000.", "......", "......").enclosed(0), 2);
        FourTints rings = Maps.of("999999", "900009", "90..09", "90..09", "900009", "999999");
        CHECK.due("as many as there can be", rings.enclosed(9), 16);
        CHECK.due("within another's ring", rings.enclosed(0), 4);
        FourTints own = Maps.of("......", ".00000", ".0.0.0", ".00000", "......", "......");
        CHECK.due("two cells apart", own.enclosed(0), 2);
        FourTints island = Maps.of("000000", "0....0", "0.00.0", "0....0", "000000", "......");
        CHECK.due("its own cells inside do not count", island.enclosed(0), 10);
    }

    private static void enclosedAndTheEdgeOfTheMap() {
        CHECK.sentence("12: the edge of the map (a cell of the first or last row or column)");
        CHECK.due("a cell of the first row", Maps.of("0.0...", "000...", "......", "......", "......", "......").enclosed(0), 0);
        CHECK.due("a cell of the last row", Maps.of("......", "......", "......", "......", "...000", "...0.0").enclosed(0), 0);
        CHECK.due("a cell of the first column", Maps.of("......", "......", "00....", ".0....", "00....", "......").enclosed(0), 0);
        CHECK.due("a cell of the last column", Maps.of("......", "....00", "....0.", "....00", "......", "......").enclosed(0), 0);
        CHECK.due("a corner", Maps.of(".0....", "0.....", "......", "......", "......", "......").enclosed(0), 0);
        CHECK.due("next to the first row", Maps.of("000...", "0.0...", "000...", "......", "......", "......").enclosed(0), 1);
        CHECK.due("next to the last row", Maps.of("......", "......", "......", "..000.", "..0.0.", "..000.").enclosed(0), 1);
        CHECK.due("next to the first column", Maps.of("......", "......", "000...", "0.0...", "000...", "......").enclosed(0), 1);
        CHECK.due("next to the last column", Maps.of("......", "...000", "...0.0", "...000", "......", "......").enclosed(0), 1);
    }

    private static void enclosedOverTouchingCells() {
        CHECK.sentence("12: over touching cells that do not belong to the country");
        CHECK.due("a corner is no way out", Maps.of("......", "..0...", ".0.0..", "..0...", "......", "......").enclosed(0), 1);
        CHECK.due("a gap is one", Maps.of("......", "..0...", ".0.0..", "......", "......", "......").enclosed(0), 0);
        CHECK.due("over other countries", Maps.of("......", ".000..", ".0.1..", ".0002.", "......", "......").enclosed(0), 0);
        CHECK.due("all around a long way", Maps.of("000000", "0....0", "0.0000", "0....0", "0000.0", "0000.0").enclosed(0), 0);
        CHECK.due("a long way that is shut", Maps.of("000000", "0....0", "0.0000", "0....0", "0000.0", "000000").enclosed(0), 10);
    }

    private static void enclosedOutOfRange() {
        CHECK.sentence("12: throws IndexOutOfBoundsException if country is not 0 to 9");
        FourTints map = new FourTints();
        for (int country : NO_COUNTRY) {
            CHECK.dueThrow("enclosed(" + country + ")", map, BOUNDS, () -> map.enclosed(country));
        }
    }

    private static void allNeighboursGreatestNumber() {
        CHECK.sentence("13: the greatest number of countries that are all neighbours of one another");
        CHECK.due("two, the lowest and the highest", Maps.of("09....", "......", "......", "......", "......", "......").allNeighbours(), 2);
        CHECK.due("in a ring not all are", Maps.of(Maps.RING).allNeighbours(), 2);
        CHECK.due("three of a wheel", Maps.of(Maps.WHEEL).allNeighbours(), 3);
        FourTints ten = Maps.of(Maps.ALL_TEN);
        CHECK.due("all ten", ten.allNeighbours(), 10);
        ten.tint(0, 1);
        CHECK.due("tints do not matter", ten.allNeighbours(), 10);
    }

    private static void allNeighboursIfNoTwoAreNeighbours() {
        CHECK.sentence("13: 1 if no two that are there are neighbours");
        CHECK.due("one alone, the lowest", allOf(0).allNeighbours(), 1);
        CHECK.due("one alone, the highest", allOf(9).allNeighbours(), 1);
        CHECK.due("two that meet at a corner", Maps.of("0.....", ".9....", "......", "......", "......", "......").allNeighbours(), 1);
        CHECK.due("ten apart", Maps.of(Maps.APART).allNeighbours(), 1);
    }

    private static void allNeighboursIfNoneAreThere() {
        CHECK.sentence("13: 0 if none are there");
        FourTints map = new FourTints();
        CHECK.due("a new map", map.allNeighbours(), 0);
        map.tint(0, 1);
        CHECK.due("a tint brings none", map.allNeighbours(), 0);
        Maps.draw(map, Maps.ALL_TEN);
        map.paintBlock(0, 0, 5, 5, FourTints.SEA);
        CHECK.due("none any more", map.allNeighbours(), 0);
    }
}
