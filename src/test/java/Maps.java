/** Maps for the tests: drawn as six rows of six signs, a digit for a country and a dot for sea. */
final class Maps {
    static final int SIZE = 6;
    static final int COUNTRIES = 10;

    /** Ten countries, no two of them neighbours. */
    static final String[] APART = {
        "0.1.2.",
        "......",
        "3.4.5.",
        "......",
        "6.7.8.",
        ".....9"};

    /** Country 0 in the middle, and 1 to 5 around it in a ring: four tints are needed. */
    static final String[] WHEEL = {
        "111222",
        "111222",
        "500002",
        "500003",
        "544433",
        "544433"};

    /** A ring of five countries around sea. */
    static final String[] RING = {
        "111222",
        "111222",
        "5....2",
        "5....3",
        "544433",
        "544433"};

    /** Ten countries, all neighbours of one another. */
    static final String[] ALL_TEN = {
        "295835",
        "791740",
        "548069",
        "266373",
        "089162",
        "124465"};

    private Maps() {
    }

    static FourTints of(String... rows) {
        FourTints map = new FourTints();
        draw(map, rows);
        return map;
    }

    static void draw(FourTints map, String... rows) {
        for (int row = 0; row < SIZE; row++) {
            for (int column = 0; column < SIZE; column++) {
                char sign = rows[row].charAt(column);
                map.paint(row, column, sign == '.' ? FourTints.SEA : sign - '0');
            }
        }
    }

    static void tintAll(FourTints map, int... tints) {
        for (int country = 0; country < tints.length; country++) {
            map.tint(country, tints[country]);
        }
    }

    static String drawingOf(FourTints map) {
        StringBuilder text = new StringBuilder();
        for (int row = 0; row < SIZE; row++) {
            for (int column = 0; column < SIZE; column++) {
                int country = map.countryAt(row, column);
                text.append(country == FourTints.SEA ? "." : String.valueOf(country));
            }
            text.append('/');
        }
        return text.toString();
    }

    static String tintsOf(FourTints map) {
        StringBuilder text = new StringBuilder();
        for (int country = 0; country < COUNTRIES; country++) {
            text.append(country == 0 ? "" : " ").append(map.tintOf(country));
        }
        return text.toString();
    }

    static String stateOf(FourTints map) {
        return drawingOf(map) + " " + tintsOf(map);
    }
}
