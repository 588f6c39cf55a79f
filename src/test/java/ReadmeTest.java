import java.io.IOException;
import java.nio.file.Files;
import java.nio.file.Path;
import java.util.ArrayList;
import java.util.List;
import java.util.TreeSet;
import java.util.regex.Matcher;
import java.util.regex.Pattern;
import java.util.stream.Stream;

/** README.md: its example is this test's, line by line, and answers so; it names all tests, and all calls. */
final class ReadmeTest {
    private static final Check CHECK = new Check();
    private static final Path TESTS = Path.of("src/test/java");

    public static void main(String[] args) throws IOException {
        example();
        List<String> readme = Files.readAllLines(Path.of("README.md"));
        List<String> own = Files.readAllLines(TESTS.resolve("ReadmeTest.java"));
        List<String> told = between(readme, "```java", "```");
        CHECK.due("the README's example", String.join("\n", told), String.join("\n", between(own, "// from here", "// to here")));
        String text = String.join("\n", readme);
        CHECK.due("the tests that it names", names(text, "`(\\w+Test)`"), files());
        CHECK.due("the calls that it names", calls(readme), face());
        CHECK.end();
    }

    private static void example() {
        // from here
        BusCrossbar bus = new BusCrossbar(2, 2, 4);              // masters, slaves, LIMIT
        bus.way(1, 3, 0);                                        // slave 1 answers 3 ticks late, in order
        bus.poke(0x1020, 7);                                     // a byte of the memory
        int burst = 3 + 16 * 3 + 64 * 1;                         // 4 beats of 8 bytes, GROWING: a read
        int write = bus.request(0, burst + 256, 0x1000, 5, 42);  // master 0, a write, address, ID, seed
        int read = bus.request(1, burst, 0x1020, 5, 0);          // master 1, a read
        int ticks = bus.drain(1000);                             // 11: ticks till both are done (NONE: not yet)
        int response = bus.ticket(write, 1);                     // 0: OKAY
        int done = bus.ticket(read, 4);                          // 9: the tick in which the read was done
        long data = bus.data(read, 0);                           // 7: beat 0 of the read
        int written = bus.peek(0x1000);                          // 177: the first byte that was written
        int beats = bus.port(1, 1, 1);                           // 4: transfers on W at slave 1's port
        int broken = bus.port(1, 1, 5);                          // 0: its monitor found no fault

        long address = 9 + (0x40L << 6) + ((long) burst << 22);  // CONTENT of AR: ID 9, address 0x40
        bus.see(0, 3, 3, address, 0);                            // to watcher 0: AR has VALID and READY
        int first = bus.judge(0);                                // 0: that tick was sound
        bus.see(0, 4, 1, 0, 9 + 256);                            // R has VALID, ID 9, LAST
        int second = bus.judge(0);                               // 7: LAST, but it is the first beat of four
        int channel = bus.watched(0, 1);                         // 4: it was broken on R
        // to here
        CHECK.due("ticks", ticks, 11);
        CHECK.due("response", response, 0);
        CHECK.due("done", done, 9);
        CHECK.due("data", data, 7);
        CHECK.due("written", written, Check.seedAfter(42, 1) & 255);
        CHECK.due("written, in the README", written, 177);
        CHECK.due("beats", beats, 4);
        CHECK.due("broken", broken, 0);
        CHECK.due("first", first, 0);
        CHECK.due("second", second, 7);
        CHECK.due("channel", channel, 4);
    }

    /** The lines behind the first one that is this and ahead of the next one that is that, without their indent. */
    private static List<String> between(List<String> lines, String from, String to) {
        List<String> kept = new ArrayList<>();
        boolean on = false;
        for (String line : lines) {
            if (on && line.strip().equals(to)) {
                break;
            }
            if (on) {
                kept.add(line.strip());
            }
            on = on || line.strip().equals(from);
        }
        return kept;
    }

    private static String names(String text, String pattern) {
        TreeSet<String> names = new TreeSet<>();
        Matcher found = Pattern.compile(pattern).matcher(text);
        while (found.find()) {
            names.add(found.group(1));
        }
        return names.toString();
    }

    private static String files() throws IOException {
        TreeSet<String> names = new TreeSet<>();
        try (Stream<Path> all = Files.list(TESTS)) {
            all.map(file -> file.getFileName().toString())
                    .filter(name -> name.endsWith("Test.java"))
                    .forEach(name -> names.add(name.substring(0, name.length() - ".java".length())));
        }
        return names.toString();
    }

    /** The calls in the first column of the table of calls. */
    private static String calls(List<String> readme) {
        StringBuilder column = new StringBuilder();
        boolean on = false;
        for (String line : readme) {
            on = line.startsWith("|") && (on || line.startsWith("| calls |"));
            if (on) {
                column.append(line, 0, line.indexOf('|', 1));
            }
        }
        return names(column.toString(), "`(\\w+)`");
    }

    private static String face() {
        TreeSet<String> names = new TreeSet<>();
        for (var method : BusCrossbar.class.getDeclaredMethods()) {
            if (java.lang.reflect.Modifier.isPublic(method.getModifiers())) {
                names.add(method.getName());
            }
        }
        return names.toString();
    }
}
