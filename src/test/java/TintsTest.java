/** Promises 14 to 21: tints, conflicts, chains and tinting in order. */
public final class TintsTest {
    private static final Class<IndexOutOfBoundsException> BOUNDS = IndexOutOfBoundsException.class;
    private static final Class<IllegalArgumentException> ARGUMENT = IllegalArgumentException.class;
    private static final Class<IllegalStateException> STATE = IllegalStateException.class;
    private static final int[] NO_COUNTRY = {-1, 10, 11, -2, Integer.MIN_VALUE, Integer.MAX_VALUE};
    private static final int[] NO_TINT = {-1, 11, 12, -10, Integer.MIN_VALUE, Integer.MAX_VALUE};

    /** Ten countries in a row, each the neighbour of the next. */
    private static final String[] IN_A_ROW = {
        "012345",
        ".....6",
        "....87",
        "....9.",
        "......",
        "......"};

    /** Country 9 has all others for neighbours. */
    private static final String[] ALL_AROUND = {
        "012345",
        "999999",
        "678999",
        "......",
        "......",
        "......"};

    private static final Check CHECK = new Check("TintsTest");

    public static void main(String[] args) {
        tint();
        conflicts();
        isTinted();
        leastFree();
        chain();
        exchange();
        chainAndExchangeThrow();
        tintInOrder();
        CHECK.end();
    }

    private static void tint() {
        FourTints map = new FourTints();
        CHECK.due("14: the first tint of one not there", map.tint(7, 10), 0);
        CHECK.due("15: tintOf one not there", map.tintOf(7), 10);
        CHECK.due("14: another tint", map.tint(7, 1), 10);
        CHECK.due("14: none", map.tint(7, 0), 1);
        CHECK.due("14: none again", map.tint(7, 0), 0);
        CHECK.due("15: tintOf without tint", map.tintOf(7), 0);
        map.paintBlock(0, 0, 5, 5, 7);
        map.tint(7, 4);
        map.tint(8, 4);
        map.paint(0, 0, 8);
        CHECK.due("14: with a conflict", map.tint(8, 4), 4);
        CHECK.due("15: tints stay", map.tintOf(7), 4);
        map.paintBlock(0, 0, 5, 5, FourTints.SEA);
        CHECK.due("15: the tint of one that has gone", map.tintOf(7), 4);
        for (int country = 0; country < 10; country++) {
            map.tint(country, 10 - country);
        }
        CHECK.due("15: tints of all", Maps.tintsOf(map), "10 9 8 7 6 5 4 3 2 1");
        for (int country : NO_COUNTRY) {
            CHECK.dueThrow("14: tint of country " + country, map, BOUNDS, () -> map.tint(country, 1));
            CHECK.dueThrow("14: tint with two faults", map, BOUNDS, () -> map.tint(country, 11));
            CHECK.dueThrow("15: tintOf country " + country, map, BOUNDS, () -> map.tintOf(country));
        }
        for (int tint : NO_TINT) {
            CHECK.dueThrow("14: tint " + tint, map, ARGUMENT, () -> map.tint(0, tint));
            CHECK.dueThrow("14: tint " + tint, map, ARGUMENT, () -> map.tint(9, tint));
        }
    }

    private static void conflicts() {
        FourTints map = Maps.of(Maps.WHEEL);
        CHECK.due("16: without tints", map.conflicts(), 0);
        Maps.tintAll(map, 2, 2, 2, 2, 2, 2, 2, 2, 2, 2);
        CHECK.due("16: all alike, those not there do not count", map.conflicts(), 10);
        map.tint(0, 0);
        CHECK.due("16: the rim", map.conflicts(), 5);
        map.tint(1, 10);
        map.tint(3, 10);
        CHECK.due("16: 4 and 5", map.conflicts(), 1);
        map.tint(4, 10);
        CHECK.due("16: 3 and 4", map.conflicts(), 1);
        map.tint(0, 10);
        CHECK.due("16: 0 with 1, 3 and 4", map.conflicts(), 4);
        map.paintBlock(2, 1, 3, 4, FourTints.SEA);
        CHECK.due("16: without the middle", map.conflicts(), 1);
        CHECK.due("16: a long border is one conflict", conflictsOfHalves(), 1);
        CHECK.due("16: the sea", new FourTints().conflicts(), 0);
    }

    private static int conflictsOfHalves() {
        FourTints map = Maps.of("111222", "111222", "111222", "111222", "111222", "111222");
        map.tint(1, 1);
        map.tint(2, 1);
        return map.conflicts();
    }

    private static void isTinted() {
        FourTints map = new FourTints();
        CHECK.due("17: the sea", map.isTinted(), true);
        Maps.draw(map, Maps.WHEEL);
        CHECK.due("17: without tints", map.isTinted(), false);
        Maps.tintAll(map, 1, 2, 3, 2, 3, 0);
        CHECK.due("17: one has no tint", map.isTinted(), false);
        map.tint(5, 2);
        CHECK.due("17: one conflict", map.isTinted(), false);
        map.tint(5, 10);
        CHECK.due("17: tinted", map.isTinted(), true);
        map.tint(9, 1);
        CHECK.due("17: those not there do not count", map.isTinted(), true);
        map.paint(2, 2, 9);
        CHECK.due("17: once there it counts", map.isTinted(), false);
        map.paint(2, 2, 8);
        CHECK.due("17: one that comes without a tint", map.isTinted(), false);
        map.tint(8, 4);
        CHECK.due("17: tinted again", map.isTinted(), true);
    }

    private static void leastFree() {
        FourTints map = Maps.of(ALL_AROUND);
        CHECK.due("18: no neighbour has a tint", map.leastFree(9), 1);
        Maps.tintAll(map, 1, 2, 3, 4, 5, 6, 7, 8, 9, 1);
        CHECK.due("18: nine tints are taken", map.leastFree(9), 10);
        CHECK.due("18: between two neighbours", map.leastFree(0), 3);
        map.tint(9, 10);
        CHECK.due("18: one's own tint does not count", map.leastFree(0), 1);
        map.tint(4, 10);
        CHECK.due("18: a gap", map.leastFree(9), 5);
        map.tint(0, 2);
        CHECK.due("18: the least", map.leastFree(9), 1);
        map.tint(0, 0);
        CHECK.due("18: none is no tint", map.leastFree(9), 1);
        map.tint(0, 1);
        map.paint(0, 2, 1);
        CHECK.due("18: one not there is no neighbour", map.leastFree(9), 3);
        CHECK.due("18: of one not there", map.leastFree(2), 1);
        for (int country : NO_COUNTRY) {
            CHECK.dueThrow("18: leastFree of " + country, map, BOUNDS, () -> map.leastFree(country));
        }
    }

    private static void chain() {
        FourTints map = Maps.of(IN_A_ROW);
        Maps.tintAll(map, 1, 2, 1, 2, 1, 3, 1, 2, 2, 1);
        CHECK.due("19: to the third tint", map.chain(0, 2), 5);
        CHECK.due("19: from the middle", map.chain(2, 2), 5);
        CHECK.due("19: from the other tint", map.chain(3, 1), 5);
        CHECK.due("19: beyond the third tint", map.chain(8, 1), 4);
        CHECK.due("19: its own tint", map.chain(7, 2), 2);
        CHECK.due("19: its own tint alone", map.chain(0, 1), 1);
        CHECK.due("19: a tint no one has", map.chain(4, 10), 1);
        CHECK.due("19: only its own and that tint", map.chain(5, 1), 3);
        map.tint(5, 2);
        CHECK.due("19: all ten", map.chain(0, 2), 10);
        CHECK.due("19: all ten from the end", map.chain(9, 2), 10);
        map.tint(5, 0);
        CHECK.due("19: none holds a chain up", map.chain(0, 2), 5);
        map.tint(5, 2);
        map.paint(0, 3, FourTints.SEA);
        CHECK.due("19: one not there holds a chain up", map.chain(0, 2), 3);
        CHECK.due("19: nor is it in the chain", map.chain(4, 2), 6);

        FourTints backwards = Maps.of("987654", ".....3", "....12", "....0.", "......", "......");
        Maps.tintAll(backwards, 1, 2, 1, 2, 1, 2, 1, 2, 1, 2);
        CHECK.due("19: a chain against the numbers", backwards.chain(9, 1), 10);
        CHECK.due("19: a chain with the numbers", backwards.chain(0, 2), 10);
    }

    private static void exchange() {
        FourTints map = Maps.of(IN_A_ROW);
        Maps.tintAll(map, 1, 2, 1, 2, 1, 3, 1, 2, 2, 1);
        CHECK.due("20: exchange", map.exchange(1, 1), 5);
        CHECK.due("20: the tints", Maps.tintsOf(map), "2 1 2 1 2 3 1 2 2 1");
        CHECK.due("20: exchange back", map.exchange(4, 1), 5);
        CHECK.due("20: the tints before", Maps.tintsOf(map), "1 2 1 2 1 3 1 2 2 1");
        CHECK.due("20: with its own tint", map.exchange(7, 2), 0);
        CHECK.due("20: nothing has changed", Maps.tintsOf(map), "1 2 1 2 1 3 1 2 2 1");
        CHECK.due("20: with a tint no one has", map.exchange(8, 10), 2);
        CHECK.due("20: a conflict goes along", Maps.tintsOf(map), "1 2 1 2 1 3 1 10 10 1");
        CHECK.due("20: the third one", map.exchange(5, 1), 3);
        CHECK.due("20: the tints", Maps.tintsOf(map), "1 2 1 2 3 1 3 10 10 1");
        map.paint(0, 1, FourTints.SEA);
        CHECK.due("20: one not there", map.exchange(0, 2), 1);
        CHECK.due("20: it keeps its tint", Maps.tintsOf(map), "2 2 1 2 3 1 3 10 10 1");

        FourTints wheel = Maps.of(Maps.WHEEL);
        wheel.tintInOrder(false);
        CHECK.due("20: tints of the wheel", Maps.tintsOf(wheel), "1 2 3 2 3 4 0 0 0 0");
        CHECK.due("20: on the rim", wheel.exchange(5, 3), 2);
        CHECK.due("20: no conflict comes", wheel.isTinted(), true);
        CHECK.due("20: tints of the wheel", Maps.tintsOf(wheel), "1 2 3 2 4 3 0 0 0 0");
    }

    private static void chainAndExchangeThrow() {
        FourTints map = Maps.of(Maps.WHEEL);
        Maps.tintAll(map, 1, 2, 3, 4, 0, 5, 6);
        for (int country : NO_COUNTRY) {
            CHECK.dueThrow("19: chain of " + country, map, BOUNDS, () -> map.chain(country, 1));
            CHECK.dueThrow("20: exchange of " + country, map, BOUNDS, () -> map.exchange(country, 1));
            CHECK.dueThrow("19: chain with two faults", map, BOUNDS, () -> map.chain(country, 0));
            CHECK.dueThrow("20: exchange with two faults", map, BOUNDS, () -> map.exchange(country, 11));
        }
        for (int tint : new int[] {0, -1, 11, Integer.MIN_VALUE, Integer.MAX_VALUE}) {
            CHECK.dueThrow("19: chain with tint " + tint, map, ARGUMENT, () -> map.chain(0, tint));
            CHECK.dueThrow("20: exchange with tint " + tint, map, ARGUMENT, () -> map.exchange(0, tint));
            CHECK.dueThrow("19: chain of one untinted, tint " + tint, map, ARGUMENT, () -> map.chain(4, tint));
            CHECK.dueThrow("20: exchange of one untinted, tint " + tint, map, ARGUMENT, () -> map.exchange(4, tint));
            CHECK.dueThrow("19: chain of one not there, tint " + tint, map, ARGUMENT, () -> map.chain(6, tint));
            CHECK.dueThrow("20: exchange of one not there, tint " + tint, map, ARGUMENT, () -> map.exchange(6, tint));
        }
        CHECK.dueThrow("19: chain of one untinted", map, STATE, () -> map.chain(4, 1));
        CHECK.dueThrow("20: exchange of one untinted", map, STATE, () -> map.exchange(4, 1));
        CHECK.dueThrow("19: chain of one not there", map, STATE, () -> map.chain(6, 6));
        CHECK.dueThrow("20: exchange of one not there", map, STATE, () -> map.exchange(6, 6));
        CHECK.dueThrow("19: chain of one neither there nor tinted", map, STATE, () -> map.chain(7, 10));
        CHECK.dueThrow("20: exchange of one neither there nor tinted", map, STATE, () -> map.exchange(7, 10));
        CHECK.due("19: the least tint", map.chain(0, 1), 1);
        CHECK.due("19: the greatest tint", map.chain(0, 10), 1);
        CHECK.due("20: the greatest tint", map.exchange(0, 10), 1);
    }

    private static void tintInOrder() {
        FourTints map = new FourTints();
        map.tint(3, 8);
        CHECK.due("21: the sea", map.tintInOrder(true), 0);
        CHECK.due("21: the sea", map.tintInOrder(false), 0);
        CHECK.due("21: those not there keep their tints", Maps.tintsOf(map), "0 0 0 8 0 0 0 0 0 0");
        map.paint(5, 5, 4);
        CHECK.due("21: one", map.tintInOrder(true), 1);
        CHECK.due("21: one", Maps.tintsOf(map), "0 0 0 8 1 0 0 0 0 0");

        FourTints wheel = Maps.of(Maps.WHEEL);
        Maps.tintAll(wheel, 9, 1, 1, 1, 1, 1, 7, 0, 2, 10);
        CHECK.due("21: old tints do not count", wheel.tintInOrder(false), 4);
        CHECK.due("21: the wheel", Maps.tintsOf(wheel), "1 2 3 2 3 4 7 0 2 10");
        CHECK.due("21: the same again", wheel.tintInOrder(false), 4);
        CHECK.due("21: the wheel again", Maps.tintsOf(wheel), "1 2 3 2 3 4 7 0 2 10");

        FourTints ten = Maps.of(Maps.ALL_TEN);
        CHECK.due("21: ten that are all neighbours", ten.tintInOrder(true), 10);
        CHECK.due("21: ten that are all neighbours", Maps.tintsOf(ten), "1 2 3 4 5 6 7 8 9 10");
        CHECK.due("18: the last one", ten.leastFree(9), 10);

        FourTints row = Maps.of("135420", "......", "......", "......", "......", "......");
        CHECK.due("21: a row by numbers", row.tintInOrder(false), 3);
        CHECK.due("21: a row by numbers", Maps.tintsOf(row), "1 1 2 2 1 3 0 0 0 0");
        CHECK.due("21: a row by neighbours", row.tintInOrder(true), 3);
        CHECK.due("21: a row by neighbours", Maps.tintsOf(row), "2 2 1 1 2 3 0 0 0 0");

        FourTints star = Maps.of(ALL_AROUND);
        CHECK.due("21: a star by numbers", star.tintInOrder(false), 3);
        CHECK.due("21: a star by numbers", Maps.tintsOf(star), "1 2 1 2 1 2 1 2 1 3");
        CHECK.due("21: a star by neighbours", star.tintInOrder(true), 3);
        CHECK.due("21: a star by neighbours", Maps.tintsOf(star), "3 2 3 2 3 2 3 2 3 1");
    }
}
