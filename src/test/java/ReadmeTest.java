import java.io.IOException;
import java.nio.charset.StandardCharsets;
import java.nio.file.Files;
import java.nio.file.Path;
import java.util.List;

/**
 * The examples of README.md do what it says of them: between the lines "// README" they stand here as
 * they stand there, each answer behind its call.
 */
public final class ReadmeTest {
    private ReadmeTest() {
    }

    public static void main(String[] args) throws IOException {
        examples();
        same(Path.of("README.md"), Path.of("src/test/java/ReadmeTest.java"));
        Check.close("ReadmeTest");
    }

    private static void examples() {
        // README
        HiddenBarrel x = new HiddenBarrel();
        put(x, "places 4;lane 0 1 3;lane 1 2 4;lane 1 3 5;chance 2 2;chance 3 3;");
        int town = x.town(HiddenBarrel.NONE);   // 0: the first town
        int mean = x.best(town, 0);             // 58: the least MEAN
        int first = x.best(town, 1);            // 3: the first STOP of that WALK
        long above = x.both(town, 0);           // 216: both by chances it is worth 216 / 18 minutes
        long below = x.both(town, 1);           // 18

        put(x, "places 3;lane 0 1 5;lane 1 1 2;");
        int none = x.town(HiddenBarrel.NONE);   // NONE: a FAULT; the tape is empty, the first town stays
        int fault = x.fault(0);                 // 2: a NUMBER that can't be
        int place = x.fault(1);                 // 27: the byte at which it stands
        // README
        Check.due("README: town", town, 0);
        Check.due("README: mean", mean, 58);
        Check.due("README: first", first, 3);
        Check.due("README: above", above, 216);
        Check.due("README: below", below, 18);
        Check.due("README: none", none, HiddenBarrel.NONE);
        Check.due("README: fault", fault, 2);
        Check.due("README: place", place, 27);
        Check.due("README: the first town stays", x.count(0), 1);
        Check.due("README: the tape is empty", x.end(1), HiddenBarrel.NONE);
    }

    // README
    /** Puts a text of at most 500 signs onto the tape: twenty bytes a call, the highest of each number first. */
    static void put(HiddenBarrel x, String text) {
        x.end(0);
        for (int i = 0; i < text.length(); i += 20) {
            x.feed(four(text, i), four(text, i + 4), four(text, i + 8), four(text, i + 12), four(text, i + 16));
        }
        x.end(text.length());
    }

    static int four(String text, int at) {
        int number = 0;
        for (int i = at; i < at + 4; i++) {
            number = number << 8 | (i < text.length() ? text.charAt(i) : 0);
        }
        return number;
    }
    // README

    /** Each example that stands here stands in README.md, too, line by line. */
    private static void same(Path readme, Path here) throws IOException {
        String told = squeezed(Files.readAllLines(readme, StandardCharsets.UTF_8));
        String[] parts = Files.readString(here, StandardCharsets.UTF_8).split("(?m)^ +// README$");
        Check.due("examples", parts.length, 5);
        for (int i = 1; i < parts.length; i += 2) {
            Check.due("README.md has example " + i, told.contains(squeezed(parts[i].lines().toList())), true);
        }
    }

    private static String squeezed(List<String> lines) {
        StringBuilder text = new StringBuilder();
        for (String line : lines) {
            if (!line.isBlank()) {
                text.append(line.trim().replaceAll(" +", " ")).append('\n');
            }
        }
        return text.toString();
    }
}
