/**
 * Long runs of mixed calls, right and wrong ones, on FourTints and on PlainMap: every answer, every
 * exception and the state behind every call must be the same. The runs are the same each time.
 */
public final class ReferenceTest {
    private static final int RUNS = 240;
    private static final int CALLS = 200;
    private static final int KINDS = 24;
    private static final int[] STRANGE = {-1, -2, 6, 10, 11, 12, 36, Integer.MIN_VALUE, Integer.MAX_VALUE};

    private static final Check CHECK = new Check("ReferenceTest");

    private final FourTints map = new FourTints();
    private final PlainMap plain = new PlainMap();
    private final int style;
    private long seed;

    private ReferenceTest(int run) {
        style = run % 4;
        seed = 7919L * run + 17;
    }

    public static void main(String[] args) {
        for (int run = 0; run < RUNS; run++) {
            new ReferenceTest(run).play(run);
        }
        CHECK.end();
    }

    private void play(int run) {
        fill();
        for (int call = 0; call < CALLS; call++) {
            int kind = below(3) == 0 ? below(2) : below(KINDS);
            int[] given = arguments(kind);
            String told = "run " + run + ", call " + call + ", kind " + kind + java.util.Arrays.toString(given);
            CHECK.due(told, answerOf(kind, given, true), answerOf(kind, given, false));
            CHECK.due("the state behind " + told, Maps.stateOf(map), stateOfPlain());
        }
    }

    /** What the map is like at first: sea, all cells painted at random, blocks, or ten countries far apart. */
    private void fill() {
        int most = 2 + below(9);
        for (int turn = 0; turn < 36; turn++) {
            if (style == 1) {
                both(0, new int[] {turn / 6, turn % 6, below(most), 0, 0});
            } else if (style == 2 && turn < 14) {
                int row = below(6);
                int column = below(6);
                both(1, new int[] {row, column, row + below(6 - row), column + below(6 - column), below(most)});
            } else if (style == 3 && turn < 10) {
                both(0, new int[] {turn / 3 * 2 - turn / 9, turn % 3 * 2 + turn / 9, turn, 0, 0});
            }
        }
    }

    private void both(int kind, int[] given) {
        answerOf(kind, given, true);
        answerOf(kind, given, false);
    }

    private int[] arguments(int kind) {
        int[] given = new int[5];
        if (kind == 0 || kind == 2) {
            given = new int[] {below(6), below(6), below(11) - 1, 0, 0};
        } else if (kind == 1) {
            int row = below(6);
            int column = below(6);
            given = new int[] {row, column, row + below(Math.min(3, 6 - row)), column + below(Math.min(3, 6 - column)), below(11) - 1};
            if (below(12) == 0) {
                given[2] = below(6);
                given[3] = below(6);
            }
        } else if (kind == 12) {
            given = new int[] {below(10), below(below(2) == 0 ? 4 : 11), 0, 0, 0};
        } else if (kind == 17 || kind == 18) {
            given = new int[] {below(10), 1 + below(below(2) == 0 ? 4 : 10), 0, 0, 0};
        } else if (kind >= 22) {
            given[0] = below(11);
        } else {
            given = new int[] {below(10), below(10), 0, 0, 0};
        }
        // now and then one or two of them are out of range
        for (int turn = 0; turn < 2; turn++) {
            if (below(12) == 0) {
                given[below(given.length)] = STRANGE[below(STRANGE.length)];
            }
        }
        return given;
    }

    private String answerOf(int kind, int[] given, boolean ofMap) {
        try {
            return String.valueOf(ofMap ? askMap(kind, given) : askPlain(kind, given));
        } catch (RuntimeException e) {
            return e.getClass().getName();
        }
    }

    private long askMap(int kind, int[] g) {
        switch (kind) {
            case 0: return map.paint(g[0], g[1], g[2]);
            case 1: return map.paintBlock(g[0], g[1], g[2], g[3], g[4]);
            case 2: return map.countryAt(g[0], g[1]);
            case 3: return map.countries();
            case 4: return map.area(g[0]);
            case 5: return map.pieces(g[0]);
            case 6: return map.largestPiece(g[0]);
            case 7: return map.scattered();
            case 8: return map.neighbours(g[0]);
            case 9: return map.border(g[0], g[1]);
            case 10: return map.enclosed(g[0]);
            case 11: return map.allNeighbours();
            case 12: return map.tint(g[0], g[1]);
            case 13: return map.tintOf(g[0]);
            case 14: return map.conflicts();
            case 15: return map.isTinted() ? 1 : 0;
            case 16: return map.leastFree(g[0]);
            case 17: return map.chain(g[0], g[1]);
            case 18: return map.exchange(g[0], g[1]);
            case 19: return map.tintInOrder(g[0] % 2 == 0);
            case 20: return map.fewestTints();
            case 21: return map.tintWithFewest();
            case 22: return map.tintings(g[0]);
            default: return map.tintingsByPairs(g[0]);
        }
    }

    private long askPlain(int kind, int[] g) {
        switch (kind) {
            case 0: return plain.paint(g[0], g[1], g[2]);
            case 1: return plain.paintBlock(g[0], g[1], g[2], g[3], g[4]);
            case 2: return plain.countryAt(g[0], g[1]);
            case 3: return plain.countries();
            case 4: return plain.area(g[0]);
            case 5: return plain.pieces(g[0]);
            case 6: return plain.largestPiece(g[0]);
            case 7: return plain.scattered();
            case 8: return plain.neighbours(g[0]);
            case 9: return plain.border(g[0], g[1]);
            case 10: return plain.enclosed(g[0]);
            case 11: return plain.allNeighbours();
            case 12: return plain.tint(g[0], g[1]);
            case 13: return plain.tintOf(g[0]);
            case 14: return plain.conflicts();
            case 15: return plain.isTinted();
            case 16: return plain.leastFree(g[0]);
            case 17: return plain.chain(g[0], g[1]);
            case 18: return plain.exchange(g[0], g[1]);
            case 19: return plain.tintInOrder(g[0] % 2 == 0);
            case 20: return plain.fewestTints();
            case 21: return plain.tintWithFewest();
            default: return plain.tintings(g[0]);
        }
    }

    private String stateOfPlain() {
        StringBuilder text = new StringBuilder();
        for (int row = 0; row < Maps.SIZE; row++) {
            for (int column = 0; column < Maps.SIZE; column++) {
                long country = plain.countryAt(row, column);
                text.append(country == FourTints.SEA ? "." : String.valueOf(country));
            }
            text.append('/');
        }
        for (int country = 0; country < Maps.COUNTRIES; country++) {
            text.append(' ').append(plain.tintOf(country));
        }
        return text.toString();
    }

    /** The next number of a fixed row of numbers, from 0 to below the bound. */
    private int below(int bound) {
        seed = seed * 6364136223846793005L + 1442695040888963407L;
        return (int) ((seed >>> 33) % bound);
    }
}
