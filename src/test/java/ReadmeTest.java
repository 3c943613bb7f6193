import java.io.IOException;
import java.nio.file.Files;
import java.nio.file.Path;
import java.util.ArrayList;
import java.util.List;

/** README.md's example is the one below, its answers are those that it tells, and its table has every test. */
public final class ReadmeTest {

    public static void main(String[] args) throws IOException {
        example();
        sameLines();
        everyTest();
        Check.close("ReadmeTest");
    }

    private static void example() {
        // README begins
        SavedThird books = new SavedThird();
        int mine = books.mine(0, 0, 100, 5);                  // 0: x, y, depth, coin that a bushel of coal costs
        books.water(mine, 0, 200);                            // of the year's first month
        int burned = books.trial(mine, 1000, 20, 100);        // 100: the old engine's coal for 1000 strokes
        int engine = books.engine(mine, 1, 20, 400, 1000, 7); // 0: a new one: load, duty, most strokes, parts
        books.feed(0x7368617265203020L);                      // "share 0 "
        books.feed(0x333b202020202020L);                      // "3;      "
        int lines = books.text();                             // 1: a third of what mine 0 saves
        int wet = books.month();                              // 0: no mine was wet
        int reading = books.read(mine);                       // 0
        int strokes = books.reading(reading, 4);              // 1000 at least
        int owed = books.reading(reading, 7);                 // 83: (100 - 50 bushels) * 5 coins / 3
        int left = books.pay(mine, 80);                       // 3 coins of arrears
        int refused = books.stop(mine);                       // STATE: it is not late by 3 months
        // README ends
        Check.due("mine", mine, 0);
        Check.due("burned", burned, 100);
        Check.due("engine", engine, 0);
        Check.due("lines", lines, 1);
        Check.due("wet", wet, 0);
        Check.due("reading", reading, 0);
        Check.due("strokes", strokes, 1000);
        Check.due("coal", books.reading(reading, 6), 50);
        Check.due("owed", owed, 83);
        Check.due("left", left, 3);
        Check.due("refused", refused, SavedThird.STATE);
    }

    private static void sameLines() throws IOException {
        List<String> here = between("src/test/java/ReadmeTest.java", "// README begins", "// README ends");
        List<String> there = between("README.md", "```java", "```");
        Check.holds("README.md's example is this one: " + there, there.equals(here));
    }

    private static List<String> between(String file, String begin, String end) throws IOException {
        List<String> found = new ArrayList<>();
        boolean inside = false;
        for (String line : Files.readAllLines(Path.of(file))) {
            String bare = line.strip();
            if (inside && bare.equals(end)) {
                return found;
            }
            if (inside) {
                found.add(bare);
            }
            inside |= bare.equals(begin);
        }
        return found;
    }

    private static void everyTest() throws IOException {
        String readme = Files.readString(Path.of("README.md"));
        try (var files = Files.list(Path.of("src/test/java"))) {
            for (Path file : files.toList()) {
                String name = file.getFileName().toString().replace(".java", "");
                Check.holds("README.md tells of " + name, readme.contains(name));
            }
        }
        for (var method : SavedThird.class.getDeclaredMethods()) {
            if (java.lang.reflect.Modifier.isPublic(method.getModifiers())) {
                Check.holds("README.md tells of " + method, readme.contains("`" + method.getName() + "("));
            }
        }
    }
}
