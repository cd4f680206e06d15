/** One test for each sentence on a boundary case in promises 22 to 25. */
public final class AllTintingsSentencesTest {
    private static final Class<IllegalArgumentException> ARGUMENT = IllegalArgumentException.class;
    private static final int[] NO_NUMBER = {-1, 11, Integer.MIN_VALUE, Integer.MAX_VALUE};

    private static final Check CHECK = new Check("AllTintingsSentencesTest");

    public static void main(String[] args) {
        fewestFromOneToTen();
        fewestWithoutCountries();
        withFewestAllThatAreThere();
        withFewestTheFirstTinting();
        withFewestReturnsHowManyTints();
        tintingsTakeZeroToTen();
        tintingsInAllLengths();
        tintingsIfNoCountriesAreThere();
        tintingsOutOfRange();
        byPairsTheSame();
        byPairsIfNoCountriesAreThere();
        byPairsOutOfRange();
        CHECK.end();
    }

    private static void fewestFromOneToTen() {
        CHECK.sentence("22: the fewest tints with which there is a tinting");
        FourTints map = new FourTints();
        map.paint(5, 5, 9);
        CHECK.due("one country", map.fewestTints(), 1);
        CHECK.due("ten apart", Maps.of(Maps.APART).fewestTints(), 1);
        CHECK.due("a pair", Maps.of("09....", "......", "......", "......", "......", "......").fewestTints(), 2);
        CHECK.due("a ring of five", Maps.of(Maps.RING).fewestTints(), 3);
        CHECK.due("a wheel", Maps.of(Maps.WHEEL).fewestTints(), 4);
        FourTints ten = Maps.of(Maps.ALL_TEN);
        CHECK.due("all ten", ten.fewestTints(), 10);
        CHECK.due("no country is tinted by it", Maps.tintsOf(ten), "0 0 0 0 0 0 0 0 0 0");
    }

    private static void fewestWithoutCountries() {
        CHECK.sentence("22: 0 without countries");
        FourTints map = new FourTints();
        CHECK.due("a new map", map.fewestTints(), 0);
        map.tint(9, 10);
        CHECK.due("a tint of one not there", map.fewestTints(), 0);
        map.paintBlock(0, 0, 5, 5, 0);
        map.paintBlock(0, 0, 5, 5, FourTints.SEA);
        CHECK.due("none any more", map.fewestTints(), 0);
    }

    private static void withFewestAllThatAreThere() {
        CHECK.sentence("23: tints all countries that are there");
        FourTints map = Maps.of("0....9", "......", "......", "......", "......", "......");
        Maps.tintAll(map, 7, 8, 0, 10, 0, 0, 0, 0, 1, 10);
        CHECK.due("two apart", map.tintWithFewest(), 1);
        CHECK.due("those not there keep theirs", Maps.tintsOf(map), "1 8 0 10 0 0 0 0 1 1");
    }

    private static void withFewestTheFirstTinting() {
        CHECK.sentence("23: the lesser tint for the first country, by their numbers, for which they differ");
        FourTints row = Maps.of("0231..", "......", "......", "......", "......", "......");
        CHECK.due("a row of four", row.tintWithFewest(), 2);
        CHECK.due("both ends can not have the same", Maps.tintsOf(row), "1 2 2 1 0 0 0 0 0 0");
        FourTints apart = Maps.of("98..5.", "......", "......", "......", "......", "......");
        CHECK.due("a pair and one apart", apart.tintWithFewest(), 2);
        CHECK.due("the one apart has the least", Maps.tintsOf(apart), "0 0 0 0 0 1 0 0 1 2");
        FourTints ring = Maps.of(Maps.RING);
        Maps.tintAll(ring, 0, 3, 2, 1, 2, 1);
        CHECK.due("a ring of five", ring.tintWithFewest(), 3);
        CHECK.due("the tinting before does not matter", Maps.tintsOf(ring), "0 1 2 1 2 3 0 0 0 0");
        FourTints square = Maps.of("032...", "41....", "......", "......", "......", "......");
        CHECK.due("a ring of four with one more", square.tintWithFewest(), 2);
        CHECK.due("the first of its two tintings", Maps.tintsOf(square), "1 1 1 2 2 0 0 0 0 0");
    }

    private static void withFewestReturnsHowManyTints() {
        CHECK.sentence("23: returns how many tints there are");
        FourTints map = new FourTints();
        CHECK.due("without countries", map.tintWithFewest(), 0);
        CHECK.due("without countries nothing changes", Maps.tintsOf(map), "0 0 0 0 0 0 0 0 0 0");
        map.paint(0, 0, 9);
        CHECK.due("one country", map.tintWithFewest(), 1);
        FourTints ten = Maps.of(Maps.ALL_TEN);
        CHECK.due("all ten", ten.tintWithFewest(), 10);
        CHECK.due("all ten are tinted", Maps.tintsOf(ten), "1 2 3 4 5 6 7 8 9 10");
    }

    private static void tintingsTakeZeroToTen() {
        CHECK.sentence("24: tints: 0 to 10");
        FourTints map = Maps.of("09....", "......", "......", "......", "......", "......");
        for (long tints = 0; tints <= 10; tints++) {
            CHECK.due("a pair, tintings(" + tints + ")", map.tintings((int) tints), tints * (tints - 1));
        }
    }

    private static void tintingsInAllLengths() {
        CHECK.sentence("24: returns how many tintings there are (a long)");
        for (int country = 0; country < Maps.COUNTRIES; country++) {
            FourTints alone = new FourTints();
            alone.paint(0, 0, country);
            CHECK.due("country " + country + " alone, no tints", alone.tintings(0), 0);
            CHECK.due("country " + country + " alone, one tint", alone.tintings(1), 1);
            CHECK.due("country " + country + " alone, ten tints", alone.tintings(10), 10);
        }
        CHECK.due("more than an int holds", Maps.of(Maps.APART).tintings(10), 10_000_000_000L);
        CHECK.due("more than an int holds, with nine", Maps.of(Maps.APART).tintings(9), 3_486_784_401L);
        FourTints ten = Maps.of(Maps.ALL_TEN);
        CHECK.due("all ten, one tint too few", ten.tintings(9), 0);
        CHECK.due("all ten, just enough", ten.tintings(10), 3_628_800);
        FourTints wheel = Maps.of(Maps.WHEEL);
        CHECK.due("a wheel, one tint too few", wheel.tintings(3), 0);
        CHECK.due("a wheel, just enough", wheel.tintings(4), 120);
    }

    private static void tintingsIfNoCountriesAreThere() {
        CHECK.sentence("24: 1 if no countries are there");
        FourTints map = new FourTints();
        map.tint(0, 1);
        for (int tints = 0; tints <= 10; tints++) {
            CHECK.due("tintings(" + tints + ")", map.tintings(tints), 1);
        }
        map.paint(0, 0, 0);
        CHECK.due("one is there, without tints", map.tintings(0), 0);
        map.paint(0, 0, FourTints.SEA);
        CHECK.due("none any more, without tints", map.tintings(0), 1);
    }

    private static void tintingsOutOfRange() {
        CHECK.sentence("24: throws IllegalArgumentException if tints is out of range");
        FourTints map = Maps.of(Maps.WHEEL);
        FourTints sea = new FourTints();
        for (int tints : NO_NUMBER) {
            CHECK.dueThrow("tintings(" + tints + ")", map, ARGUMENT, () -> map.tintings(tints));
            CHECK.dueThrow("tintings(" + tints + ") of the sea", sea, ARGUMENT, () -> sea.tintings(tints));
        }
    }

    private static void byPairsTheSame() {
        CHECK.sentence("25: returns the same; tints: 0 to 10");
        String[][] drawings = {Maps.APART, Maps.WHEEL, Maps.RING, Maps.ALL_TEN,
            {"012345", "9....6", "988887", "......", "......", "......"},
            {"012345", "678901", "234567", "890123", "456789", "012345"}};
        for (String[] drawing : drawings) {
            FourTints map = Maps.of(drawing);
            for (int tints = 0; tints <= 10; tints++) {
                CHECK.due("tintingsByPairs(" + tints + ")", map.tintingsByPairs(tints), map.tintings(tints));
            }
        }
        CHECK.due("more than an int holds", Maps.of(Maps.APART).tintingsByPairs(10), 10_000_000_000L);
        CHECK.due("all ten, one tint too few", Maps.of(Maps.ALL_TEN).tintingsByPairs(9), 0);
        CHECK.due("all ten, just enough", Maps.of(Maps.ALL_TEN).tintingsByPairs(10), 3_628_800);
        for (int country = 0; country < Maps.COUNTRIES; country++) {
            FourTints alone = new FourTints();
            alone.paint(5, 5, country);
            CHECK.due("country " + country + " alone, no tints", alone.tintingsByPairs(0), 0);
            CHECK.due("country " + country + " alone, one tint", alone.tintingsByPairs(1), 1);
            CHECK.due("country " + country + " alone, ten tints", alone.tintingsByPairs(10), 10);
        }
    }

    private static void byPairsIfNoCountriesAreThere() {
        CHECK.sentence("25: returns the same (1 if no countries are there)");
        FourTints map = new FourTints();
        map.tint(0, 1);
        for (int tints = 0; tints <= 10; tints++) {
            CHECK.due("tintingsByPairs(" + tints + ")", map.tintingsByPairs(tints), 1);
        }
        Maps.draw(map, Maps.ALL_TEN);
        map.paintBlock(0, 0, 5, 5, FourTints.SEA);
        CHECK.due("none any more, without tints", map.tintingsByPairs(0), 1);
    }

    private static void byPairsOutOfRange() {
        CHECK.sentence("25: throws IllegalArgumentException if tints is out of range");
        FourTints map = Maps.of(Maps.WHEEL);
        FourTints sea = new FourTints();
        for (int tints : NO_NUMBER) {
            CHECK.dueThrow("tintingsByPairs(" + tints + ")", map, ARGUMENT, () -> map.tintingsByPairs(tints));
            CHECK.dueThrow("tintingsByPairs(" + tints + ") of the sea", sea, ARGUMENT, () -> sea.tintingsByPairs(tints));
        }
    }
}
