import java.io.IOException;
import java.nio.file.Files;
import java.nio.file.Path;
import java.util.ArrayList;
import java.util.List;

/** README.md's example: it is the very text between the two marks here, and answers what its comments say. */
public final class ExampleTest {
    private static final String BEGINS = "// the example begins";
    private static final String ENDS = "// the example ends";

    private ExampleTest() {
    }

    public static void main(String[] args) throws IOException {
        example();
        List<String> readme = between("README.md", "```java", "```");
        List<String> here = between("src/test/java/ExampleTest.java", BEGINS, ENDS);
        Check.due("README.md has an example", false, readme::isEmpty);
        Check.due("README.md's example", here, () -> readme);
        Check.end();
    }

    private static void example() {
        // the example begins
        OrderedBytes map = new OrderedBytes(100, 400);  // at most 100 entries and 400 units of 16 bytes

        map.feed(0x4241L, 2);           // the bytes 'A' and 'B': the lowest comes first
        boolean isNew = map.put(1);     // true: an entry with the key 'A' and the value 'B'
        map.feed(0x43L, 1);
        map.put(1);                     // one with the key 'C' and an empty value
        int entries = map.count(0);     // 2

        map.feed(0x41L, 1);
        int length = map.get();         // 1: the value of 'A' is the result
        int value = map.byteAt(0);      // 0x42

        map.feed(0x42L, 1);
        map.seek(0);                    // the least key that is not below 'B' is the result
        int key = map.byteAt(0);        // 0x43
        int place = map.place();        // 1: it is the second one

        StringBuilder keys = new StringBuilder();
        map.at(0);                      // from the first entry (there is one) ..
        do {
            keys.append((char) map.byteAt(0));
        } while (map.step(false));      // .. to the last: "AC"

        map.at(0);
        map.feed(0x43L, 1);
        int some = map.range();         // 1: from the current key on and below 'C' there is 'A' alone
        int all = map.range();          // 2: the tape is empty now, which means the end of all
        int gone = map.removeFrom(9);   // 2: the current entry and the nine behind it, as far as there are
        // the example ends
        Check.due("isNew", true, () -> isNew);
        Check.due("entries", 2, () -> entries);
        Check.due("length", 1, () -> length);
        Check.due("value", 0x42, () -> value);
        Check.due("key", 0x43, () -> key);
        Check.due("place", 1, () -> place);
        Check.due("keys", "AC", keys::toString);
        Check.due("some", 1, () -> some);
        Check.due("all", 2, () -> all);
        Check.due("gone", 2, () -> gone);
    }

    /** The lines between the first two that are these marks, without the spaces that stand before all of them. */
    private static List<String> between(String file, String begins, String ends) throws IOException {
        List<String> lines = new ArrayList<>();
        boolean inside = false;
        for (String line : Files.readAllLines(Path.of(file))) {
            if (inside && line.strip().equals(ends)) {
                break;
            }
            if (inside) {
                lines.add(line);
            }
            inside = inside || line.strip().equals(begins);
        }
        return String.join("\n", lines).stripIndent().lines().toList();
    }
}
