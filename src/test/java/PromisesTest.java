import java.io.IOException;
import java.nio.file.Files;
import java.nio.file.Path;
import java.util.Map;
import java.util.TreeMap;
import java.util.regex.Matcher;
import java.util.regex.Pattern;

/** Each promise of the document has tests named after it in a BoundaryTest: as many as it has exceptions, and one. */
public final class PromisesTest {
    private static final Checks CHECKS = new Checks();
    private static final Path DOCUMENT = Path.of("../shared/DOC.md");
    private static final Path TESTS = Path.of("src/test/java");
    private static final Pattern NAME = Pattern.compile("private static void promise(\\d+)[A-Z]\\w*\\(\\)");

    public static void main(String[] arguments) throws IOException {
        Map<Integer, Integer> tests = testsOfPromises();
        String[] promises = Files.readString(DOCUMENT).split("(?m)^## Promise ");
        CHECKS.equal("promises in the document", promises.length - 1, 55);
        for (int number = 1; number < promises.length; number++) {
            int exceptions = promises[number].split("(?m)^Throws `").length - 1;
            boolean enough = tests.getOrDefault(number, 0) >= exceptions + 1;
            CHECKS.equal("tests of promise " + number + " for " + exceptions + " exceptions", enough, true);
        }
        CHECKS.finish("PromisesTest");
    }

    private static Map<Integer, Integer> testsOfPromises() throws IOException {
        Map<Integer, Integer> tests = new TreeMap<>();
        try (var files = Files.newDirectoryStream(TESTS, "*BoundaryTest.java")) {
            for (Path file : files) {
                Matcher names = NAME.matcher(Files.readString(file));
                while (names.find()) {
                    tests.merge(Integer.parseInt(names.group(1)), 1, Integer::sum);
                }
            }
        }
        return tests;
    }
}
