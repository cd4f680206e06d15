/** Promises 5 to 13: countries, areas, pieces, neighbours, borders, what is enclosed, all neighbours. */
public final class CountriesTest {
    private static final Class<IndexOutOfBoundsException> BOUNDS = IndexOutOfBoundsException.class;
    private static final int[] NO_COUNTRY = {-1, 10, 11, -2, Integer.MIN_VALUE, Integer.MAX_VALUE};

    /** Pieces that meet at corners alone, or around the end of a row, are not one piece. */
    private static final String[] CORNERS = {
        "0.0.01",
        "1.0..3",
        ".0.000",
        "0.2.0.",
        "22..00",
        "3..4.0"};

    private static final Check CHECK = new Check("CountriesTest");

    public static void main(String[] args) {
        countriesAndAreas();
        pieces();
        neighboursAndBorders();
        enclosed();
        allNeighbours();
        wrongCountries();
        CHECK.end();
    }

    private static void countriesAndAreas() {
        FourTints map = new FourTints();
        CHECK.due("5: countries of the sea", map.countries(), 0);
        CHECK.due("6: area without cells", map.area(9), 0);
        Maps.draw(map, Maps.APART);
        CHECK.due("5: ten countries", map.countries(), 10);
        CHECK.due("6: area of one cell", map.area(9), 1);
        map.paintBlock(0, 0, 3, 5, 9);
        CHECK.due("5: four are left", map.countries(), 4);
        CHECK.due("6: area in two pieces", map.area(9), 25);
        CHECK.due("6: area of one painted over", map.area(0), 0);
        map.tint(0, 3);
        CHECK.due("5: a tint does not bring a country back", map.countries(), 4);
        map.paintBlock(0, 0, 5, 5, 0);
        CHECK.due("5: one has all", map.countries(), 1);
        CHECK.due("6: the whole map", map.area(0), 36);
        map.paintBlock(0, 0, 5, 5, FourTints.SEA);
        CHECK.due("5: all sea again", map.countries(), 0);
        CHECK.due("6: nothing is left", map.area(0), 0);
    }

    private static void pieces() {
        FourTints map = Maps.of(CORNERS);
        CHECK.due("7: pieces of 0", map.pieces(0), 6);
        CHECK.due("8: largest piece of 0", map.largestPiece(0), 7);
        CHECK.due("7: the end of a row does not touch the next row", map.pieces(1), 2);
        CHECK.due("8: pieces of one cell", map.largestPiece(1), 1);
        CHECK.due("7: pieces at a corner", map.pieces(2), 2);
        CHECK.due("8: the largest of 2", map.largestPiece(2), 2);
        CHECK.due("7: pieces of 3", map.pieces(3), 2);
        CHECK.due("7: one piece", map.pieces(4), 1);
        CHECK.due("7: no piece", map.pieces(5), 0);
        CHECK.due("8: no largest piece", map.largestPiece(5), 0);
        CHECK.due("9: scattered", map.scattered(), 4);
        CHECK.due("9: scattered of a whole map", Maps.of(Maps.WHEEL).scattered(), 0);
        CHECK.due("9: scattered of the sea", new FourTints().scattered(), 0);

        FourTints board = new FourTints();
        for (int row = 0; row < Maps.SIZE; row++) {
            for (int column = 0; column < Maps.SIZE; column++) {
                board.paint(row, column, (row + column) % 2 == 0 ? 9 : 8);
            }
        }
        CHECK.due("7: a chess board", board.pieces(9), 18);
        CHECK.due("8: a chess board", board.largestPiece(8), 1);
        CHECK.due("9: a chess board", board.scattered(), 2);

        FourTints snake = Maps.of("777777", ".....7", "777777", "7.....", "777777", ".....7");
        CHECK.due("7: a long way", snake.pieces(7), 1);
        CHECK.due("8: a long way", snake.largestPiece(7), 21);
        snake.paint(2, 3, FourTints.SEA);
        CHECK.due("7: the way is cut", snake.pieces(7), 2);
        CHECK.due("8: the larger half", snake.largestPiece(7), 11);
        CHECK.due("9: the way is cut", snake.scattered(), 1);

        FourTints spiral = Maps.of("666666", ".....6", "6666.6", "6..6.6", "6....6", "666666");
        CHECK.due("7: a spiral", spiral.pieces(6), 1);
        CHECK.due("8: a spiral", spiral.largestPiece(6), 23);
        CHECK.due("8: the whole map", wholeMap(6).largestPiece(6), 36);
    }

    private static FourTints wholeMap(int country) {
        FourTints map = new FourTints();
        map.paintBlock(0, 0, 5, 5, country);
        return map;
    }

    private static void neighboursAndBorders() {
        FourTints wheel = Maps.of(Maps.WHEEL);
        CHECK.due("10: the middle of the wheel", wheel.neighbours(0), 5);
        for (int country = 1; country <= 5; country++) {
            CHECK.due("10: the rim of the wheel", wheel.neighbours(country), 3);
        }
        CHECK.due("10: one that is not there", wheel.neighbours(9), 0);
        CHECK.due("11: border of 0 and 1", wheel.border(0, 1), 2);
        CHECK.due("11: border of 1 and 0", wheel.border(1, 0), 2);
        CHECK.due("11: border around a corner", wheel.border(0, 2), 3);
        CHECK.due("11: border of 0 and 5", wheel.border(5, 0), 2);
        CHECK.due("11: border of 4 and 5", wheel.border(4, 5), 2);
        CHECK.due("11: no border", wheel.border(1, 3), 0);
        CHECK.due("11: a country and itself", wheel.border(0, 0), 0);
        CHECK.due("11: one that is not there", wheel.border(0, 9), 0);
        CHECK.due("11: two that are not there", wheel.border(8, 9), 0);
        CHECK.due("11: one that is not there and itself", wheel.border(9, 9), 0);

        FourTints corners = Maps.of("1....2", "2....1", "......", "..34..", "..43..", "......");
        CHECK.due("11: the ends of rows do not touch", corners.border(1, 2), 2);
        CHECK.due("11: a cell counts on all its sides", corners.border(3, 4), 4);
        CHECK.due("10: one neighbour in many places", corners.neighbours(3), 1);
        CHECK.due("10: sea is no neighbour", Maps.of(Maps.APART).neighbours(4), 0);
        FourTints rowEnds = Maps.of("....12", "34....", "......", ".....5", "6.....", "......");
        CHECK.due("10: the end of a row and the next row", rowEnds.neighbours(2), 1);
        CHECK.due("11: the end of a row and the next row", rowEnds.border(5, 6), 0);
        CHECK.due("11: corners alone", Maps.of("1.....", ".2....", "......", "......", "......", "......").border(1, 2), 0);

        wheel.paintBlock(2, 1, 3, 4, FourTints.SEA);
        CHECK.due("10: behind painting", wheel.neighbours(1), 2);
        CHECK.due("11: behind painting", wheel.border(0, 1), 0);
        FourTints board = Maps.of("010101", "101010", "010101", "101010", "010101", "101010");
        CHECK.due("11: all pairs of touching cells", board.border(0, 1), 60);
    }

    private static void enclosed() {
        FourTints map = new FourTints();
        CHECK.due("12: one that is not there", map.enclosed(3), 0);
        map.paintBlock(0, 0, 5, 5, 3);
        CHECK.due("12: the whole map", map.enclosed(3), 0);
        map.paint(2, 2, 4);
        map.paint(3, 3, FourTints.SEA);
        CHECK.due("12: a country and sea inside", map.enclosed(3), 2);
        CHECK.due("12: one cell encloses nothing", map.enclosed(4), 0);
        map.paint(0, 0, 4);
        map.paint(5, 3, FourTints.SEA);
        CHECK.due("12: cells on the edge are not enclosed", map.enclosed(3), 2);
        map.paint(4, 3, 5);
        CHECK.due("12: a way to the edge over sea and a country", map.enclosed(3), 1);
        CHECK.due("12: one at a corner of the way", map.enclosed(5), 0);

        FourTints ring = Maps.of(".1111.", "1....1", "1.22.1", "1.22.1", "1....1", ".1111.");
        CHECK.due("12: a ring that meets at corners encloses", ring.enclosed(1), 16);
        CHECK.due("12: the corners of the map are outside", ring.enclosed(2), 0);
        ring.paint(0, 3, 7);
        CHECK.due("12: a gap in the ring", ring.enclosed(1), 0);
        FourTints edge = Maps.of("......", "......", "1.....", "21....", "1.....", "......");
        CHECK.due("12: an edge cell with no other way out", edge.enclosed(1), 0);
        FourTints maze = Maps.of("111111", "1....1", "1.1111", "1.1..1", "1.11.1", "111111");
        CHECK.due("12: two chambers", maze.enclosed(1), 10);
        maze.paint(5, 4, 8);
        CHECK.due("12: one chamber is opened", maze.enclosed(1), 7);
    }

    private static void allNeighbours() {
        FourTints map = new FourTints();
        CHECK.due("13: none are there", map.allNeighbours(), 0);
        map.paint(3, 3, 9);
        CHECK.due("13: one is there", map.allNeighbours(), 1);
        Maps.draw(map, Maps.APART);
        CHECK.due("13: no two are neighbours", map.allNeighbours(), 1);
        CHECK.due("13: two", Maps.of("12....", "......", "34....", "......", "......", "......").allNeighbours(), 2);
        CHECK.due("13: a ring of five", Maps.of(Maps.RING).allNeighbours(), 2);
        CHECK.due("13: a wheel", Maps.of(Maps.WHEEL).allNeighbours(), 3);
        CHECK.due("13: a ring of two around two", Maps.of("111111", "122223", "124423", "124423", "133333", "111111").allNeighbours(), 3);
        CHECK.due("13: four", Maps.of("1111..", "1022..", "1332..", "1111..", "......", "......").allNeighbours(), 4);
        CHECK.due("13: five, with pieces", Maps.of("1213..", "..45..", "14.25.", "34.15.", "2.....", "3524..").allNeighbours(), 5);
        FourTints ten = Maps.of(Maps.ALL_TEN);
        CHECK.due("13: ten", ten.allNeighbours(), 10);
        CHECK.due("10: nine neighbours", ten.neighbours(9), 9);
        ten.paint(2, 0, 9);
        CHECK.due("13: two of the ten are no neighbours", ten.allNeighbours(), 9);
    }

    private static void wrongCountries() {
        FourTints map = Maps.of(Maps.WHEEL);
        for (int country : NO_COUNTRY) {
            CHECK.dueThrow("6: area of " + country, map, BOUNDS, () -> map.area(country));
            CHECK.dueThrow("7: pieces of " + country, map, BOUNDS, () -> map.pieces(country));
            CHECK.dueThrow("8: largestPiece of " + country, map, BOUNDS, () -> map.largestPiece(country));
            CHECK.dueThrow("10: neighbours of " + country, map, BOUNDS, () -> map.neighbours(country));
            CHECK.dueThrow("11: border of " + country, map, BOUNDS, () -> map.border(country, 0));
            CHECK.dueThrow("11: border with " + country, map, BOUNDS, () -> map.border(0, country));
            CHECK.dueThrow("11: border of both " + country, map, BOUNDS, () -> map.border(country, country));
            CHECK.dueThrow("12: enclosed of " + country, map, BOUNDS, () -> map.enclosed(country));
        }
    }
}
