import java.io.IOException;
import java.lang.reflect.Method;
import java.nio.file.Files;
import java.nio.file.Path;
import java.util.List;

/**
 * The example in README.md: each of its calls answers what is told there, each call told there is made
 * here, and every call of the face is told there.
 */
public final class ReadmeTest {
    private static final Check CHECK = new Check("ReadmeTest");

    private final List<String> lines;
    private int made = 0;

    private ReadmeTest(List<String> lines) {
        this.lines = lines;
    }

    public static void main(String[] args) throws IOException {
        Path readme = Path.of("README.md");
        List<String> lines = Files.readAllLines(readme).stream().filter(line -> line.startsWith("map.")).toList();
        new ReadmeTest(lines).follow(new FourTints());
        CHECK.end();
    }

    private void follow(FourTints map) {
        paintAndAsk(map);
        tint(map);
        findTintings(map);
        throwing("map.area(10)", IndexOutOfBoundsException.class, map, () -> map.area(10));
        throwing("map.tint(1, 11)", IllegalArgumentException.class, map, () -> map.tint(1, 11));
        throwing("map.chain(3, 1)", IllegalStateException.class, map, () -> map.chain(3, 1));
        CHECK.due("how many calls README.md tells", lines.size(), made);
        for (Method call : FourTints.class.getMethods()) {
            if (call.getDeclaringClass() == FourTints.class) {
                CHECK.due("README.md tells of " + call.getName(), isTold(call.getName()), true);
            }
        }
    }

    private void paintAndAsk(FourTints map) {
        answered("map.paintBlock(0, 0, 2, 5, 1)", map.paintBlock(0, 0, 2, 5, 1));
        answered("map.paintBlock(3, 0, 5, 5, 2)", map.paintBlock(3, 0, 5, 5, 2));
        answered("map.paint(0, 0, FourTints.SEA)", map.paint(0, 0, FourTints.SEA));
        answered("map.countryAt(0, 0)", map.countryAt(0, 0));
        answered("map.countries()", map.countries());
        answered("map.area(1)", map.area(1));
        answered("map.pieces(1)", map.pieces(1));
        answered("map.largestPiece(1)", map.largestPiece(1));
        answered("map.scattered()", map.scattered());
        answered("map.neighbours(1)", map.neighbours(1));
        answered("map.border(1, 2)", map.border(1, 2));
        answered("map.enclosed(1)", map.enclosed(1));
        answered("map.allNeighbours()", map.allNeighbours());
    }

    private void tint(FourTints map) {
        answered("map.tint(1, 3)", map.tint(1, 3));
        answered("map.tint(2, 3)", map.tint(2, 3));
        answered("map.conflicts()", map.conflicts());
        answered("map.leastFree(1)", map.leastFree(1));
        answered("map.chain(1, 4)", map.chain(1, 4));
        answered("map.exchange(1, 4)", map.exchange(1, 4));
        answered("map.tintOf(2)", map.tintOf(2));
        CHECK.due("tintOf(1) behind exchange(1, 4)", map.tintOf(1), 4);
        answered("map.isTinted()", map.isTinted());
        answered("map.tintInOrder(false)", map.tintInOrder(false));
    }

    private void findTintings(FourTints map) {
        answered("map.fewestTints()", map.fewestTints());
        answered("map.tintWithFewest()", map.tintWithFewest());
        CHECK.due("tintOf(1) behind tintWithFewest()", map.tintOf(1), 1);
        CHECK.due("tintOf(2) behind tintWithFewest()", map.tintOf(2), 2);
        answered("map.isTinted()", map.isTinted());
        answered("map.tintings(3)", map.tintings(3));
        answered("map.tintingsByPairs(3)", map.tintingsByPairs(3));
    }

    /** The next call in README.md must be this one, with this answer. */
    private void answered(String call, Object answer) {
        CHECK.due("README.md tells of " + call, told(), call + " -> " + answer);
    }

    private void throwing(String call, Class<? extends RuntimeException> exception, FourTints map, Runnable run) {
        CHECK.dueThrow(call, map, exception, run);
        CHECK.due("README.md tells of " + call, told(), call + " -> throws " + exception.getSimpleName());
    }

    private boolean isTold(String name) {
        return lines.stream().anyMatch(line -> line.startsWith("map." + name + "("));
    }

    /** The next call of the example with the answer behind it, up to the first sign that explains it. */
    private String told() {
        String line = made < lines.size() ? lines.get(made) : "";
        made++;
        return line.replaceFirst(";\\s+// ", " -> ").replaceFirst("([:,] [a-z][^()]*)?$", "");
    }
}
