import java.io.IOException;
import java.lang.reflect.Method;
import java.lang.reflect.Modifier;
import java.nio.file.Files;
import java.nio.file.Path;
import java.util.List;
import java.util.stream.Stream;

/** README.md tells no more and no less than what there is. */
public final class ReadmeTest {
    /** The lines of the example that answer something, ahead of the answer that the page tells. */
    private static final List<String> TOLD = List.of(
            "int bid = court.place(0, 0, true, 101, 20); order 0", "int rest = court.left(bid); 5",
            "int margin = court.margin(0); 200", "int free = court.free(0); 285",
            "int failures = court.hour(); 0", "int change = court.evening(); 0", "int cash = court.cash(0); 485");

    public static void main(String[] args) throws IOException {
        String page = Files.readString(Path.of("README.md"));
        exampleAnswersAsTold();
        exampleStandsOnThePage(page);
        eachCallIsNamed(page);
        eachTestIsNamed(page);
        Check.end();
    }

    private static void exampleAnswersAsTold() {
        MarginCourt court = new MarginCourt();
        court.setMove(0, 0, -10);
        court.pay(0, 500);
        int bid = court.place(0, 0, true, 101, 20);
        court.place(1, 0, false, 100, 15);
        Check.due("bid", bid, 0);
        Check.due("left", court.left(bid), 5);
        Check.due("margin", court.margin(0), 200);
        Check.due("free", court.free(0), 285);
        Check.due("hour", court.hour(), 0);
        Check.due("evening", court.evening(), 0);
        Check.due("cash", court.cash(0), 485);
    }

    private static void exampleStandsOnThePage(String page) {
        for (String told : TOLD) {
            int end = told.indexOf(';') + 1;
            String answer = told.substring(end + 1);
            boolean stands = page.lines().anyMatch(line -> line.startsWith(told.substring(0, end))
                    && (line.contains("// " + answer) || line.endsWith(": " + answer)));
            Check.due("the page has " + told, stands, true);
        }
    }

    private static void eachCallIsNamed(String page) {
        for (Method method : MarginCourt.class.getDeclaredMethods()) {
            if (Modifier.isPublic(method.getModifiers())) {
                Check.due("the page names " + method.getName(), page.contains("`" + method.getName() + "`"), true);
            }
        }
    }

    private static void eachTestIsNamed(String page) throws IOException {
        try (Stream<Path> files = Files.list(Path.of("src/test/java"))) {
            for (Path file : files.toList()) {
                String name = file.getFileName().toString().replace(".java", "");
                Check.due("the page names " + name, page.contains("`" + name + "`"), true);
            }
        }
        page.lines().filter(line -> line.startsWith("| `") && line.contains("Test`")).forEach(line -> {
            String name = line.substring(3, line.indexOf('`', 3));
            Check.due("there is a " + name, Files.exists(Path.of("src/test/java/" + name + ".java")), true);
        });
    }
}
