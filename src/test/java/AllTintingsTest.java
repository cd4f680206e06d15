/** Promises 22 to 25: the fewest tints and the number of tintings. */
public final class AllTintingsTest {
    private static final Class<IllegalArgumentException> ARGUMENT = IllegalArgumentException.class;
    private static final int[] NO_NUMBER = {-1, 11, 12, -2, Integer.MIN_VALUE, Integer.MAX_VALUE};

    /** Five countries that are all neighbours of one another. */
    private static final String[] ALL_FIVE = {
        "1213..",
        "..45..",
        "14.25.",
        "34.15.",
        "2.....",
        "3524.."};

    private static final Check CHECK = new Check("AllTintingsTest");

    public static void main(String[] args) {
        fewest();
        firstTinting();
        tintings();
        wrongNumbers();
        callsDoNotDisturbOneAnother();
        CHECK.end();
    }

    private static void fewest() {
        FourTints map = new FourTints();
        CHECK.due("22: the sea", map.fewestTints(), 0);
        map.tint(0, 4);
        CHECK.due("22: one not there", map.fewestTints(), 0);
        Maps.draw(map, Maps.APART);
        CHECK.due("22: ten apart", map.fewestTints(), 1);
        CHECK.due("22: a ring of five", Maps.of(Maps.RING).fewestTints(), 3);
        CHECK.due("22: more than are all neighbours", Maps.of(Maps.WHEEL).fewestTints(), 4);
        CHECK.due("22: five that are all neighbours", Maps.of(ALL_FIVE).fewestTints(), 5);
        CHECK.due("22: two halves", Maps.of("111222", "111222", "111222", "333333", "222111", "222111").fewestTints(), 3);
        CHECK.due("22: ten that are all neighbours", Maps.of(Maps.ALL_TEN).fewestTints(), 10);
        map.tint(3, 7);
        String before = Maps.stateOf(map);
        map.fewestTints();
        CHECK.due("22: the tints stay", Maps.stateOf(map), before);
    }

    private static void firstTinting() {
        FourTints map = new FourTints();
        map.tint(3, 7);
        CHECK.due("23: the sea", map.tintWithFewest(), 0);
        CHECK.due("23: one not there keeps its tint", map.tintOf(3), 7);
        Maps.draw(map, Maps.APART);
        CHECK.due("23: ten apart", map.tintWithFewest(), 1);
        CHECK.due("23: ten apart", Maps.tintsOf(map), "1 1 1 1 1 1 1 1 1 1");

        FourTints wheel = Maps.of(Maps.WHEEL);
        Maps.tintAll(wheel, 3, 3, 3, 3, 3, 3, 3, 0, 10);
        CHECK.due("23: the wheel", wheel.tintWithFewest(), 4);
        CHECK.due("23: the wheel", Maps.tintsOf(wheel), "1 2 3 2 3 4 3 0 10 0");

        FourTints row = Maps.of("135420", "......", "......", "......", "......", "......");
        CHECK.due("23: where the order takes three", row.tintInOrder(false), 3);
        CHECK.due("23: a row", row.tintWithFewest(), 2);
        CHECK.due("23: a row", Maps.tintsOf(row), "1 2 2 1 1 2 0 0 0 0");

        FourTints ten = Maps.of(Maps.ALL_TEN);
        CHECK.due("23: ten that are all neighbours", ten.tintWithFewest(), 10);
        CHECK.due("23: ten that are all neighbours", Maps.tintsOf(ten), "1 2 3 4 5 6 7 8 9 10");

        FourTints late = Maps.of("5798..", "......", "2.....", "......", "......", "......");
        CHECK.due("23: the lesser tint for the first one", late.tintWithFewest(), 2);
        CHECK.due("23: the lesser tint for the first one", Maps.tintsOf(late), "0 0 1 0 0 1 0 2 2 1");
        CHECK.due("23: it is a tinting", late.isTinted(), true);
    }

    private static void tintings() {
        for (int tints = 0; tints <= 10; tints++) {
            long k = tints;
            for (int country = 0; country < Maps.COUNTRIES; country++) {
                FourTints alone = new FourTints();
                alone.paint(5, 5, country);
                bothDue("country " + country + " alone", alone, tints, k);
            }
            bothDue("the sea", new FourTints(), tints, 1);
            bothDue("ten apart", Maps.of(Maps.APART), tints, power(k, 10));
            bothDue("a ring of five", Maps.of(Maps.RING), tints, ring(k, 5));
            bothDue("a wheel", Maps.of(Maps.WHEEL), tints, k * ring(k - 1, 5));
            bothDue("all five", Maps.of(ALL_FIVE), tints, k * (k - 1) * (k - 2) * (k - 3) * (k - 4));
            bothDue("ten that are all neighbours", Maps.of(Maps.ALL_TEN), tints, tints == 10 ? 3628800 : 0);
            bothDue("ten in a row", Maps.of("012345", ".....6", "....87", "....9.", "......", "......"), tints, k * power(k - 1, 9));
            bothDue("a ring of ten", Maps.of("012345", "9....6", "988887", "......", "......", "......"), tints, ring(k, 10));
            bothDue("a ring of four and one apart", Maps.of("12....", "43....", "......", "...7..", "......", "......"), tints, k * ring(k, 4));
        }
    }

    private static void bothDue(String what, FourTints map, int tints, long want) {
        CHECK.due("24: tintings(" + tints + ") of " + what, map.tintings(tints), want);
        CHECK.due("25: tintingsByPairs(" + tints + ") of " + what, map.tintingsByPairs(tints), want);
    }

    private static long power(long base, int exponent) {
        long result = 1;
        for (int turn = 0; turn < exponent; turn++) {
            result *= base;
        }
        return result;
    }

    /** The tintings of a ring of countries, by the well-known formula. */
    private static long ring(long tints, int countries) {
        return power(tints - 1, countries) + (countries % 2 == 0 ? tints - 1 : 1 - tints);
    }

    private static void wrongNumbers() {
        FourTints wheel = Maps.of(Maps.WHEEL);
        FourTints sea = new FourTints();
        for (int tints : NO_NUMBER) {
            CHECK.dueThrow("24: tintings(" + tints + ")", wheel, ARGUMENT, () -> wheel.tintings(tints));
            CHECK.dueThrow("25: tintingsByPairs(" + tints + ")", wheel, ARGUMENT, () -> wheel.tintingsByPairs(tints));
            CHECK.dueThrow("24: tintings(" + tints + ") of the sea", sea, ARGUMENT, () -> sea.tintings(tints));
            CHECK.dueThrow("25: tintingsByPairs(" + tints + ") of the sea", sea, ARGUMENT, () -> sea.tintingsByPairs(tints));
        }
    }

    private static void callsDoNotDisturbOneAnother() {
        FourTints map = Maps.of(Maps.WHEEL);
        map.tintWithFewest();
        String before = Maps.stateOf(map);
        for (int turn = 0; turn < 3; turn++) {
            bothDue("a wheel, again", map, 4, 120);
            bothDue("a wheel, again", map, 2, 0);
            CHECK.due("13: a wheel, again", map.allNeighbours(), 3);
            CHECK.due("22: a wheel, again", map.fewestTints(), 4);
            CHECK.due("10: a wheel, again", map.neighbours(0), 5);
        }
        CHECK.due("24: the state stays", Maps.stateOf(map), before);
        map.paintBlock(2, 1, 3, 4, FourTints.SEA);
        bothDue("the wheel without its middle", map, 4, 240);
        map.paintBlock(0, 0, 5, 5, FourTints.SEA);
        bothDue("the sea again", map, 0, 1);
    }
}
