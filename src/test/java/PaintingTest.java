/** Promises 1 to 4: a new object, paint, paintBlock, countryAt. */
public final class PaintingTest {
    private static final Class<IndexOutOfBoundsException> BOUNDS = IndexOutOfBoundsException.class;
    private static final Class<IllegalArgumentException> ARGUMENT = IllegalArgumentException.class;
    private static final int[] NO_LINE = {-1, 6, 7, -2, 36, Integer.MIN_VALUE, Integer.MAX_VALUE};
    private static final int[] NO_PAINT = {-2, 10, 11, -10, Integer.MIN_VALUE, Integer.MAX_VALUE};

    private static final Check CHECK = new Check("PaintingTest");

    public static void main(String[] args) {
        aNewObject();
        paint();
        paintThrows();
        paintBlock();
        paintBlockThrows();
        countryAt();
        objectsAreApart();
        CHECK.end();
    }

    private static void aNewObject() {
        FourTints map = new FourTints();
        CHECK.due("1: a new map", Maps.stateOf(map), "....../....../....../....../....../....../ 0 0 0 0 0 0 0 0 0 0");
        CHECK.due("1: countries of a new map", map.countries(), 0);
        CHECK.due("1: a new map is tinted", map.isTinted(), true);
    }

    private static void paint() {
        FourTints map = new FourTints();
        for (int row = 0; row < Maps.SIZE; row++) {
            for (int column = 0; column < Maps.SIZE; column++) {
                int first = (row + column) % 10;
                int second = (first + 7) % 10;
                CHECK.due("2: paint over sea", map.paint(row, column, first), FourTints.SEA);
                CHECK.due("2: paint over a country", map.paint(row, column, second), first);
                CHECK.due("2: paint with the same", map.paint(row, column, second), second);
                CHECK.due("2: area in a painted map", map.area(second) > 0, true);
            }
        }
        CHECK.due("2: a painted map", Maps.drawingOf(map), "789012/890123/901234/012345/123456/234567/");
        CHECK.due("2: paint with sea", map.paint(2, 3, FourTints.SEA), 2);
        CHECK.due("2: paint sea with sea", map.paint(2, 3, FourTints.SEA), FourTints.SEA);
        CHECK.due("2: a map with sea", Maps.drawingOf(map), "789012/890123/901.34/012345/123456/234567/");
    }

    private static void paintThrows() {
        FourTints map = Maps.of(Maps.WHEEL);
        for (int line : NO_LINE) {
            CHECK.dueThrow("2: paint in row " + line, map, BOUNDS, () -> map.paint(line, 0, 7));
            CHECK.dueThrow("2: paint in column " + line, map, BOUNDS, () -> map.paint(0, line, 7));
            CHECK.dueThrow("2: paint with two faults", map, BOUNDS, () -> map.paint(line, 0, 10));
            CHECK.dueThrow("2: paint with two faults", map, BOUNDS, () -> map.paint(5, line, -2));
        }
        for (int country : NO_PAINT) {
            CHECK.dueThrow("2: paint with " + country, map, ARGUMENT, () -> map.paint(0, 0, country));
            CHECK.dueThrow("2: paint with " + country, map, ARGUMENT, () -> map.paint(5, 5, country));
        }
    }

    private static void paintBlock() {
        FourTints map = new FourTints();
        CHECK.due("3: a block over sea", map.paintBlock(1, 2, 3, 5, 4), 12);
        CHECK.due("3: the block", Maps.drawingOf(map), "....../..4444/..4444/..4444/....../....../");
        CHECK.due("3: the same block again", map.paintBlock(1, 2, 3, 5, 4), 0);
        CHECK.due("3: a block over sea, a country and its own", map.paintBlock(3, 0, 5, 3, 9), 12);
        CHECK.due("3: a block partly its own", map.paintBlock(2, 0, 4, 2, 9), 3);
        CHECK.due("3: the blocks", Maps.drawingOf(map), "....../..4444/999444/999944/9999../9999../");
        CHECK.due("3: a block of one cell", map.paintBlock(5, 5, 5, 5, 0), 1);
        CHECK.due("3: a block of one row", map.paintBlock(0, 0, 0, 5, 1), 6);
        CHECK.due("3: a block of one column", map.paintBlock(0, 5, 5, 5, 2), 6);
        CHECK.due("3: all the blocks", Maps.drawingOf(map), "111112/..4442/999442/999942/9999.2/9999.2/");
        CHECK.due("3: a block of sea counts what was not sea", map.paintBlock(1, 0, 2, 2, FourTints.SEA), 4);
        CHECK.due("3: a block of sea over sea", map.paintBlock(1, 0, 2, 1, FourTints.SEA), 0);
        CHECK.due("3: the map with sea", Maps.drawingOf(map), "111112/...442/...442/999942/9999.2/9999.2/");
        CHECK.due("3: the whole map", map.paintBlock(0, 0, 5, 5, 9), 24);
        CHECK.due("3: the whole map, sea", map.paintBlock(0, 0, 5, 5, FourTints.SEA), 36);
        CHECK.due("3: countries behind it", map.countries(), 0);
    }

    private static void paintBlockThrows() {
        FourTints map = Maps.of(Maps.WHEEL);
        for (int line : NO_LINE) {
            CHECK.dueThrow("3: row " + line, map, BOUNDS, () -> map.paintBlock(line, 0, 5, 5, 7));
            CHECK.dueThrow("3: column " + line, map, BOUNDS, () -> map.paintBlock(0, line, 5, 5, 7));
            CHECK.dueThrow("3: toRow " + line, map, BOUNDS, () -> map.paintBlock(0, 0, line, 5, 7));
            CHECK.dueThrow("3: toColumn " + line, map, BOUNDS, () -> map.paintBlock(0, 0, 5, line, 7));
            CHECK.dueThrow("3: row and country", map, BOUNDS, () -> map.paintBlock(line, 0, 5, 5, 10));
            CHECK.dueThrow("3: toColumn and country", map, BOUNDS, () -> map.paintBlock(0, 0, 5, line, -2));
            CHECK.dueThrow("3: toColumn and rows the wrong way", map, BOUNDS, () -> map.paintBlock(3, 0, 2, line, 7));
            CHECK.dueThrow("3: toRow and columns the wrong way", map, BOUNDS, () -> map.paintBlock(0, 3, line, 2, 7));
        }
        for (int country : NO_PAINT) {
            CHECK.dueThrow("3: country " + country, map, ARGUMENT, () -> map.paintBlock(0, 0, 5, 5, country));
        }
        CHECK.dueThrow("3: toRow less than row", map, ARGUMENT, () -> map.paintBlock(3, 0, 2, 5, 7));
        CHECK.dueThrow("3: toRow far less than row", map, ARGUMENT, () -> map.paintBlock(5, 0, 0, 5, FourTints.SEA));
        CHECK.dueThrow("3: toColumn less than column", map, ARGUMENT, () -> map.paintBlock(0, 3, 5, 2, 7));
        CHECK.dueThrow("3: both the wrong way", map, ARGUMENT, () -> map.paintBlock(5, 5, 0, 0, 7));
        CHECK.dueThrow("3: the wrong way and no country", map, ARGUMENT, () -> map.paintBlock(5, 5, 0, 0, 10));
    }

    private static void countryAt() {
        FourTints map = Maps.of(Maps.APART);
        CHECK.due("4: countryAt in the first corner", map.countryAt(0, 0), 0);
        CHECK.due("4: countryAt in the last corner", map.countryAt(5, 5), 9);
        CHECK.due("4: countryAt in the middle", map.countryAt(2, 4), 5);
        CHECK.due("4: countryAt tells rows from columns", map.countryAt(4, 2), 7);
        CHECK.due("4: countryAt the sea", map.countryAt(0, 5), FourTints.SEA);
        for (int line : NO_LINE) {
            CHECK.dueThrow("4: countryAt row " + line, map, BOUNDS, () -> map.countryAt(line, 0));
            CHECK.dueThrow("4: countryAt column " + line, map, BOUNDS, () -> map.countryAt(0, line));
        }
    }

    private static void objectsAreApart() {
        FourTints one = Maps.of(Maps.WHEEL);
        FourTints other = new FourTints();
        one.tint(0, 5);
        CHECK.due("1: another object stays new", Maps.stateOf(other), Maps.stateOf(new FourTints()));
        CHECK.due("1: another object has no countries", other.countries(), 0);
    }
}
