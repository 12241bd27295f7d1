import java.io.IOException;
import java.nio.file.DirectoryStream;
import java.nio.file.Files;
import java.nio.file.Path;
import java.util.regex.Matcher;
import java.util.regex.Pattern;

/** Each promise of the document has tests of its edges that are named after it. */
public final class PromisesTest {
    /** By promise: whether its heading names a refusal. */
    private static final String REFUSING = "02 05 06 07 08 09 10 11 12 14 15 16 18 19 20 22 23 24 25 27 28 29 30";

    public static void main(String[] args) throws IOException {
        int[] tests = new int[31];
        int[] refusing = new int[31];
        try (DirectoryStream<Path> files = Files.newDirectoryStream(Path.of("src/test/java"), "Edges*Test.java")) {
            for (Path file : files) count(Files.readString(file), tests, refusing);
        }
        for (int promise = 1; promise <= 30; promise++) {
            Due.due("promise " + promise + " has tests of its own", tests[promise] > 0 ? 1 : 0, 1);
            if (!REFUSING.contains(String.format("%02d", promise))) continue;
            Due.due("promise " + promise + " has a test of what it refuses", refusing[promise] > 0 ? 1 : 0, 1);
        }
        Due.end();
    }

    private static void count(String source, int[] tests, int[] refusing) {
        Matcher test = Pattern.compile("(?s)\n    static void promise([0-3][0-9])_\\w+\\(\\) \\{(.*?)\n    \\}").matcher(source);
        while (test.find()) {
            int promise = Integer.parseInt(test.group(1));
            if (promise > 30) continue;
            tests[promise]++;
            if (Pattern.compile("[rR]efused\\(").matcher(test.group(2)).find()) refusing[promise]++;
        }
    }
}
