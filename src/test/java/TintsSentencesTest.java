/** One test for each sentence on a boundary case in promises 14 to 21. */
public final class TintsSentencesTest {
    private static final Class<IndexOutOfBoundsException> BOUNDS = IndexOutOfBoundsException.class;
    private static final Class<IllegalArgumentException> ARGUMENT = IllegalArgumentException.class;
    private static final Class<IllegalStateException> STATE = IllegalStateException.class;
    private static final int LOWEST = Integer.MIN_VALUE;
    private static final int HIGHEST = Integer.MAX_VALUE;
    private static final int[] NO_COUNTRY = {-1, 10, LOWEST, HIGHEST};
    private static final int[] NO_TINT_OR_NONE = {-1, 11, LOWEST, HIGHEST};
    private static final int[] NO_TINT = {0, -1, 11, LOWEST, HIGHEST};

    /** Ten countries in a row, each the neighbour of the next. */
    private static final String[] IN_A_ROW = {
        "012345",
        ".....6",
        "....87",
        "....9.",
        "......",
        "......"};

    private static final Check CHECK = new Check("TintsSentencesTest");

    public static void main(String[] args) {
        tintTakesOneToTenOrNone();
        tintWhetherThereAreConflictsOrNot();
        tintReturnsTheTintBefore();
        tintWithCountryOutOfRange();
        tintOutOfRange();
        tintOfACountry();
        tintOfCountryOutOfRange();
        conflictsFromNoneToAll();
        isTintedEachThatIsThere();
        isTintedWithoutConflicts();
        leastFreeNoNeighbourHas();
        leastFreeReturnsOneToTen();
        leastFreeOutOfRange();
        chainReturnsOneToTen();
        chainTakesTintsOneToTen();
        chainWithCountryOutOfRange();
        chainWithTintOutOfRange();
        chainOfOneNotThere();
        chainOfOneWithoutTint();
        exchangeBothTints();
        exchangeReturnsThoseWithAnotherTint();
        exchangeWithCountryOutOfRange();
        exchangeWithTintOutOfRange();
        exchangeOfOneNotThere();
        exchangeOfOneWithoutTint();
        inOrderAllThatAreThereAnew();
        inOrderLeastTintNoNeighbourWasGiven();
        inOrderMoreNeighboursFirst();
        inOrderOfSeveralTheLowerNumber();
        inOrderByNumbers();
        inOrderReturnsTheGreatestTint();
        inOrderWithoutCountries();
        CHECK.end();
    }

    private static void tintTakesOneToTenOrNone() {
        CHECK.sentence("14: tint: 1 to 10, or 0 for none");
        FourTints map = new FourTints();
        CHECK.due("the least", map.tint(0, 1), 0);
        CHECK.due("the greatest", map.tint(0, 10), 1);
        CHECK.due("none", map.tint(0, 0), 10);
        CHECK.due("there is none", map.tintOf(0), 0);
    }

    private static void tintWhetherThereAreConflictsOrNot() {
        CHECK.sentence("14: tints a country, whether there are conflicts or not");
        FourTints map = Maps.of(Maps.ALL_TEN);
        for (int country = 0; country < Maps.COUNTRIES; country++) {
            CHECK.due("tint", map.tint(country, 10), 0);
            CHECK.due("tintOf", map.tintOf(country), 10);
        }
        CHECK.due("the conflicts", map.conflicts(), 45);
    }

    private static void tintReturnsTheTintBefore() {
        CHECK.sentence("14: returns the tint before");
        FourTints map = new FourTints();
        CHECK.due("none at first", map.tint(9, 10), 0);
        CHECK.due("the same again", map.tint(9, 10), 10);
        CHECK.due("none", map.tint(9, 0), 10);
        CHECK.due("none, and none again", map.tint(9, 0), 0);
        CHECK.due("another country's tint does not matter", map.tint(0, 3), 0);
    }

    private static void tintWithCountryOutOfRange() {
        CHECK.sentence("14: throws IndexOutOfBoundsException if country is not 0 to 9");
        FourTints map = Maps.of(Maps.WHEEL);
        for (int country : NO_COUNTRY) {
            CHECK.dueThrow("tint(" + country + ", 1)", map, BOUNDS, () -> map.tint(country, 1));
            CHECK.dueThrow("tint(" + country + ", 0)", map, BOUNDS, () -> map.tint(country, 0));
            CHECK.dueThrow("tint(" + country + ", 11)", map, BOUNDS, () -> map.tint(country, 11));
        }
    }

    private static void tintOutOfRange() {
        CHECK.sentence("14: throws IllegalArgumentException if tint is out of range");
        FourTints map = Maps.of(Maps.WHEEL);
        for (int tint : NO_TINT_OR_NONE) {
            CHECK.dueThrow("tint(0, " + tint + ")", map, ARGUMENT, () -> map.tint(0, tint));
            CHECK.dueThrow("tint(9, " + tint + ")", map, ARGUMENT, () -> map.tint(9, tint));
        }
    }

    private static void tintOfACountry() {
        CHECK.sentence("15: returns the tint of a country");
        FourTints map = new FourTints();
        map.tint(0, 10);
        map.tint(9, 1);
        CHECK.due("the lowest country", map.tintOf(0), 10);
        CHECK.due("the highest country", map.tintOf(9), 1);
        CHECK.due("one without", map.tintOf(5), 0);
    }

    private static void tintOfCountryOutOfRange() {
        CHECK.sentence("15: throws IndexOutOfBoundsException if country is not 0 to 9");
        FourTints map = new FourTints();
        for (int country : NO_COUNTRY) {
            CHECK.dueThrow("tintOf(" + country + ")", map, BOUNDS, () -> map.tintOf(country));
        }
    }

    private static void conflictsFromNoneToAll() {
        CHECK.sentence("16: returns how many conflicts there are");
        FourTints map = new FourTints();
        Maps.tintAll(map, 1, 1, 1, 1, 1, 1, 1, 1, 1, 1);
        CHECK.due("none are there", map.conflicts(), 0);
        Maps.draw(map, Maps.APART);
        CHECK.due("no neighbours", map.conflicts(), 0);
        Maps.draw(map, Maps.ALL_TEN);
        CHECK.due("all pairs of ten", map.conflicts(), 45);
        Maps.tintAll(map, 1, 2, 3, 4, 5, 6, 7, 8, 9, 9);
        CHECK.due("the last pair alone", map.conflicts(), 1);
        map.tint(9, 10);
        CHECK.due("ten tints", map.conflicts(), 0);
        Maps.tintAll(map, 0, 0, 0, 0, 0, 0, 0, 0, 0, 0);
        CHECK.due("none is not the same tint", map.conflicts(), 0);
    }

    private static void isTintedEachThatIsThere() {
        CHECK.sentence("17: whether each country that is there has a tint");
        FourTints map = new FourTints();
        CHECK.due("none are there", map.isTinted(), true);
        map.paint(0, 0, 0);
        CHECK.due("the lowest has none", map.isTinted(), false);
        map.tint(0, 10);
        CHECK.due("the lowest has one, those not there have none", map.isTinted(), true);
        map.paint(5, 5, 9);
        CHECK.due("the highest has none", map.isTinted(), false);
        map.tint(9, 1);
        CHECK.due("both have one", map.isTinted(), true);
        map.tint(0, 0);
        CHECK.due("the lowest has none again", map.isTinted(), false);
        map.paint(0, 0, FourTints.SEA);
        CHECK.due("and is there no more", map.isTinted(), true);
    }

    private static void isTintedWithoutConflicts() {
        CHECK.sentence("17: and there are no conflicts");
        FourTints map = Maps.of(Maps.ALL_TEN);
        Maps.tintAll(map, 1, 2, 3, 4, 5, 6, 7, 8, 9, 9);
        CHECK.due("one conflict", map.isTinted(), false);
        map.tint(9, 10);
        CHECK.due("none", map.isTinted(), true);
        map.tint(0, 10);
        CHECK.due("one again", map.isTinted(), false);
        FourTints apart = Maps.of(Maps.APART);
        Maps.tintAll(apart, 1, 1, 1, 1, 1, 1, 1, 1, 1, 1);
        CHECK.due("the same tint, but no neighbours", apart.isTinted(), true);
    }

    private static void leastFreeNoNeighbourHas() {
        CHECK.sentence("18: the least tint that no neighbour of a country has");
        FourTints map = Maps.of(IN_A_ROW);
        Maps.tintAll(map, 1, 3, 2, 0, 1, 1, 1, 1, 1, 1);
        CHECK.due("one neighbour has the third", map.leastFree(0), 1);
        CHECK.due("two neighbours have the first two", map.leastFree(1), 3);
        CHECK.due("one neighbour has none", map.leastFree(2), 1);
        CHECK.due("its own does not count, its neighbours have the same", map.leastFree(5), 2);
        map.tint(8, 10);
        CHECK.due("its own does not count", map.leastFree(9), 1);
    }

    private static void leastFreeReturnsOneToTen() {
        CHECK.sentence("18: returns 1 to 10");
        FourTints map = Maps.of(Maps.ALL_TEN);
        CHECK.due("no neighbour has a tint", map.leastFree(0), 1);
        Maps.tintAll(map, 10, 1, 2, 3, 4, 5, 6, 7, 8, 9);
        CHECK.due("nine have the lower ones", map.leastFree(0), 10);
        CHECK.due("the least is free", map.leastFree(1), 1);
        CHECK.due("the ninth is free", map.leastFree(9), 9);
        CHECK.due("one not there", new FourTints().leastFree(9), 1);
    }

    private static void leastFreeOutOfRange() {
        CHECK.sentence("18: throws IndexOutOfBoundsException if country is not 0 to 9");
        FourTints map = new FourTints();
        for (int country : NO_COUNTRY) {
            CHECK.dueThrow("leastFree(" + country + ")", map, BOUNDS, () -> map.leastFree(country));
        }
    }

    private static void chainReturnsOneToTen() {
        CHECK.sentence("19: returns how many countries a chain has");
        FourTints map = Maps.of(IN_A_ROW);
        Maps.tintAll(map, 1, 2, 1, 2, 1, 2, 1, 2, 1, 2);
        CHECK.due("the country alone", map.chain(0, 1), 1);
        CHECK.due("all ten from the first", map.chain(0, 2), 10);
        CHECK.due("all ten from the last", map.chain(9, 1), 10);
        String before = Maps.stateOf(map);
        map.chain(0, 2);
        CHECK.due("nothing changes", Maps.stateOf(map), before);
    }

    private static void chainTakesTintsOneToTen() {
        CHECK.sentence("19: tint: 1 to 10");
        FourTints map = Maps.of("09....", "......", "......", "......", "......", "......");
        map.tint(0, 5);
        map.tint(9, 1);
        CHECK.due("the least", map.chain(0, 1), 2);
        CHECK.due("the greatest", map.chain(0, 10), 1);
        map.tint(9, 10);
        CHECK.due("the greatest, and one has it", map.chain(0, 10), 2);
    }

    private static void chainWithCountryOutOfRange() {
        CHECK.sentence("19: throws IndexOutOfBoundsException if country is not 0 to 9");
        FourTints map = Maps.of(Maps.WHEEL);
        for (int country : NO_COUNTRY) {
            CHECK.dueThrow("chain(" + country + ", 1)", map, BOUNDS, () -> map.chain(country, 1));
            CHECK.dueThrow("chain(" + country + ", 0)", map, BOUNDS, () -> map.chain(country, 0));
        }
    }

    private static void chainWithTintOutOfRange() {
        CHECK.sentence("19: throws IllegalArgumentException if tint is out of range");
        FourTints map = Maps.of("09....", "......", "......", "......", "......", "......");
        map.tint(0, 1);
        for (int tint : NO_TINT) {
            CHECK.dueThrow("chain(0, " + tint + ")", map, ARGUMENT, () -> map.chain(0, tint));
            CHECK.dueThrow("chain(9, " + tint + ") without a tint", map, ARGUMENT, () -> map.chain(9, tint));
            CHECK.dueThrow("chain(5, " + tint + ") not there", map, ARGUMENT, () -> map.chain(5, tint));
        }
    }

    private static void chainOfOneNotThere() {
        CHECK.sentence("19: throws IllegalStateException if the country is not there");
        FourTints map = Maps.of(Maps.WHEEL);
        map.tint(9, 1);
        CHECK.dueThrow("with a tint", map, STATE, () -> map.chain(9, 1));
        CHECK.dueThrow("without a tint", map, STATE, () -> map.chain(8, 10));
    }

    private static void chainOfOneWithoutTint() {
        CHECK.sentence("19: throws IllegalStateException if the country has no tint");
        FourTints map = Maps.of(Maps.WHEEL);
        CHECK.dueThrow("never tinted", map, STATE, () -> map.chain(0, 1));
        map.tint(0, 1);
        CHECK.due("tinted", map.chain(0, 1), 1);
        map.tint(0, 0);
        CHECK.dueThrow("tinted no more", map, STATE, () -> map.chain(0, 1));
    }

    private static void exchangeBothTints() {
        CHECK.sentence("20: those with the tint of the country get the other tint, and those with the other that of the country");
        FourTints map = Maps.of(IN_A_ROW);
        Maps.tintAll(map, 10, 1, 10, 1, 3, 1, 10, 1, 0, 10);
        CHECK.due("up to a third tint", map.exchange(0, 1), 4);
        CHECK.due("the tints", Maps.tintsOf(map), "1 10 1 10 3 1 10 1 0 10");
        CHECK.due("between a third tint and none", map.exchange(7, 10), 3);
        CHECK.due("the tints", Maps.tintsOf(map), "1 10 1 10 3 10 1 10 0 10");
        CHECK.due("alone, with a tint that no neighbour has", map.exchange(9, 7), 1);
        CHECK.due("the tints", Maps.tintsOf(map), "1 10 1 10 3 10 1 10 0 7");
    }

    private static void exchangeReturnsThoseWithAnotherTint() {
        CHECK.sentence("20: returns how many countries have another tint then");
        FourTints map = Maps.of(IN_A_ROW);
        Maps.tintAll(map, 1, 2, 1, 2, 1, 2, 1, 2, 1, 2);
        CHECK.due("all ten", map.exchange(4, 2), 10);
        CHECK.due("the tints", Maps.tintsOf(map), "2 1 2 1 2 1 2 1 2 1");
        CHECK.due("none, with its own tint", map.exchange(4, 2), 0);
        CHECK.due("nothing has changed", Maps.tintsOf(map), "2 1 2 1 2 1 2 1 2 1");
        Maps.tintAll(map, 5, 5, 5, 5, 5, 5, 5, 5, 5, 5);
        CHECK.due("none of a long chain, with its own tint", map.exchange(0, 5), 0);
        CHECK.due("all ten of the same tint", map.exchange(0, 10), 10);
        CHECK.due("the tints", Maps.tintsOf(map), "10 10 10 10 10 10 10 10 10 10");
    }

    private static void exchangeWithCountryOutOfRange() {
        CHECK.sentence("20: throws IndexOutOfBoundsException if country is not 0 to 9");
        FourTints map = Maps.of(Maps.WHEEL);
        for (int country : NO_COUNTRY) {
            CHECK.dueThrow("exchange(" + country + ", 1)", map, BOUNDS, () -> map.exchange(country, 1));
            CHECK.dueThrow("exchange(" + country + ", 11)", map, BOUNDS, () -> map.exchange(country, 11));
        }
    }

    private static void exchangeWithTintOutOfRange() {
        CHECK.sentence("20: throws IllegalArgumentException if tint is out of range");
        FourTints map = Maps.of("09....", "......", "......", "......", "......", "......");
        map.tint(0, 1);
        for (int tint : NO_TINT) {
            CHECK.dueThrow("exchange(0, " + tint + ")", map, ARGUMENT, () -> map.exchange(0, tint));
            CHECK.dueThrow("exchange(9, " + tint + ") without a tint", map, ARGUMENT, () -> map.exchange(9, tint));
            CHECK.dueThrow("exchange(5, " + tint + ") not there", map, ARGUMENT, () -> map.exchange(5, tint));
        }
        CHECK.due("the greatest", map.exchange(0, 10), 1);
        CHECK.due("the least", map.exchange(0, 1), 1);
    }

    private static void exchangeOfOneNotThere() {
        CHECK.sentence("20: throws IllegalStateException if the country is not there");
        FourTints map = Maps.of(Maps.WHEEL);
        map.tint(9, 1);
        CHECK.dueThrow("with another tint", map, STATE, () -> map.exchange(9, 2));
        CHECK.dueThrow("with its own tint", map, STATE, () -> map.exchange(9, 1));
        CHECK.dueThrow("without a tint", map, STATE, () -> map.exchange(8, 10));
    }

    private static void exchangeOfOneWithoutTint() {
        CHECK.sentence("20: throws IllegalStateException if the country has no tint");
        FourTints map = Maps.of(Maps.WHEEL);
        CHECK.dueThrow("never tinted", map, STATE, () -> map.exchange(0, 1));
        map.tint(0, 1);
        CHECK.due("tinted", map.exchange(0, 2), 1);
        map.tint(0, 0);
        CHECK.dueThrow("tinted no more", map, STATE, () -> map.exchange(0, 2));
    }

    private static void inOrderAllThatAreThereAnew() {
        CHECK.sentence("21: tints all countries that are there anew");
        FourTints map = Maps.of("09....", "......", "......", "......", "......", "......");
        Maps.tintAll(map, 7, 3, 0, 10, 0, 0, 0, 0, 4, 7);
        CHECK.due("by numbers", map.tintInOrder(false), 2);
        CHECK.due("those not there keep theirs", Maps.tintsOf(map), "1 3 0 10 0 0 0 0 4 2");
        map.tint(9, 1);
        CHECK.due("by neighbours", map.tintInOrder(true), 2);
        CHECK.due("those not there keep theirs", Maps.tintsOf(map), "1 3 0 10 0 0 0 0 4 2");
    }

    private static void inOrderLeastTintNoNeighbourWasGiven() {
        CHECK.sentence("21: the least tint that no neighbour has that was tinted by this call before it");
        FourTints map = Maps.of("019...", "......", "......", "......", "......", "......");
        Maps.tintAll(map, 2, 1, 0, 0, 0, 0, 0, 0, 0, 1);
        CHECK.due("tints from before the call do not count", map.tintInOrder(false), 2);
        CHECK.due("by numbers", Maps.tintsOf(map), "1 2 0 0 0 0 0 0 0 1");
        map.tint(9, 3);
        CHECK.due("nor does that of the first country, by neighbours", map.tintInOrder(true), 2);
        CHECK.due("by neighbours", Maps.tintsOf(map), "2 1 0 0 0 0 0 0 0 2");
        Maps.tintAll(map, 3, 2, 0, 0, 0, 0, 0, 0, 0, 1);
        CHECK.due("nor does that of the last country", map.tintInOrder(true), 2);
        CHECK.due("by neighbours again", Maps.tintsOf(map), "2 1 0 0 0 0 0 0 0 2");
    }

    private static void inOrderMoreNeighboursFirst() {
        CHECK.sentence("21: true: those with more neighbours first");
        FourTints star = Maps.of("012345", "999999", "678999", "......", "......", "......");
        CHECK.due("the last has nine neighbours", star.tintInOrder(true), 3);
        CHECK.due("the last is the first", Maps.tintsOf(star), "3 2 3 2 3 2 3 2 3 1");
        FourTints apart = Maps.of("4.32..", "......", "......", "......", "......", "......");
        CHECK.due("one without neighbours comes last", apart.tintInOrder(true), 2);
        CHECK.due("one without neighbours is tinted too", Maps.tintsOf(apart), "0 0 1 2 1 0 0 0 0 0");
    }

    private static void inOrderOfSeveralTheLowerNumber() {
        CHECK.sentence("21: of several the one with the lower number");
        FourTints ten = Maps.of(Maps.ALL_TEN);
        CHECK.due("all have nine", ten.tintInOrder(true), 10);
        CHECK.due("the tints tell the order", Maps.tintsOf(ten), "1 2 3 4 5 6 7 8 9 10");
        FourTints pair = Maps.of("95....", "......", "......", "......", "......", "......");
        CHECK.due("both have one", pair.tintInOrder(true), 2);
        CHECK.due("the lower number is first", Maps.tintsOf(pair), "0 0 0 0 0 1 0 0 0 2");
    }

    private static void inOrderByNumbers() {
        CHECK.sentence("21: false: by their numbers");
        FourTints row = Maps.of("192...", "......", "......", "......", "......", "......");
        CHECK.due("the one with more neighbours comes last", row.tintInOrder(false), 2);
        CHECK.due("by numbers", Maps.tintsOf(row), "0 1 1 0 0 0 0 0 0 2");
        CHECK.due("by neighbours", row.tintInOrder(true), 2);
        CHECK.due("it comes first", Maps.tintsOf(row), "0 2 2 0 0 0 0 0 0 1");
    }

    private static void inOrderReturnsTheGreatestTint() {
        CHECK.sentence("21: returns the greatest tint that is given");
        FourTints apart = Maps.of(Maps.APART);
        CHECK.due("the least there can be", apart.tintInOrder(false), 1);
        CHECK.due("the greatest there can be", Maps.of(Maps.ALL_TEN).tintInOrder(false), 10);
        FourTints map = Maps.of("2013..", "......", "......", "......", "......", "......");
        map.tint(9, 10);
        CHECK.due("not the last that is given, nor a tint of one not there", map.tintInOrder(false), 2);
        CHECK.due("the tints", Maps.tintsOf(map), "1 2 2 1 0 0 0 0 0 10");
    }

    private static void inOrderWithoutCountries() {
        CHECK.sentence("21: 0 without countries");
        FourTints map = new FourTints();
        map.tint(0, 10);
        CHECK.due("by numbers", map.tintInOrder(false), 0);
        CHECK.due("by neighbours", map.tintInOrder(true), 0);
        CHECK.due("tints stay", map.tintOf(0), 10);
        Maps.draw(map, Maps.ALL_TEN);
        map.paintBlock(0, 0, 5, 5, FourTints.SEA);
        CHECK.due("by numbers, none any more", map.tintInOrder(false), 0);
        CHECK.due("by neighbours, none any more", map.tintInOrder(true), 0);
    }
}
