import java.io.ByteArrayOutputStream;
import java.io.IOException;
import java.io.PrintStream;
import java.lang.reflect.Method;
import java.lang.reflect.Modifier;
import java.net.URL;
import java.net.URLClassLoader;
import java.nio.charset.StandardCharsets;
import java.nio.file.Files;
import java.nio.file.Path;
import java.util.List;
import java.util.Map;
import java.util.function.Function;
import java.util.regex.Matcher;
import java.util.regex.Pattern;
import javax.tools.ToolProvider;

/** What README.md says: its example runs as told, its commands are the calls beside them, and nothing is left out. */
public final class ReadmeTest {
    private static final Checks CHECKS = new Checks();
    private static final Path TESTS = Path.of("src/test/java");
    private static final Pattern TABLE_ROW = Pattern.compile("(?m)^\\| `([^`]+)` +\\| `([^`]+)` +\\|$");
    private static final Map<String, Function<MosaicCatalogue, Object>> CALLS = Map.of(
        "addFragment('a', 0, 5, 10, 15)", x -> x.addFragment('a', 0, 5, 10, 15),
        "place(0, 3, 4)", x -> x.place(0, 3, 4),
        "setTurn(0, 2)", x -> x.setTurn(0, 2),
        "swap(0, 12)", x -> x.swap(0, 12),
        "takeBack(0)", x -> x.takeBack(0),
        "removeFragment(0)", x -> x.removeFragment(0),
        "fill()", MosaicCatalogue::fill);

    public static void main(String[] arguments) throws Exception {
        String readme = Files.readString(Path.of("README.md"));
        CHECKS.equal("the example prints", outputOf(block(readme, "java")), block(readme, "text"));
        commandsAreTheCallsBesideThem(readme);
        eachCallIsNamed(readme);
        eachTestIsNamed(readme);
        CHECKS.finish("ReadmeTest");
    }

    /** The first block of a kind. */
    private static String block(String readme, String kind) {
        Matcher found = Pattern.compile("(?s)```" + kind + "\n(.*?)```").matcher(readme);
        return found.find() ? found.group(1) : "";
    }

    /** Compiles a class named Example, runs its main method, and returns what it prints. */
    private static String outputOf(String example) throws Exception {
        Path folder = Files.createTempDirectory("readme");
        Path file = Files.writeString(folder.resolve("Example.java"), example);
        int refused = ToolProvider.getSystemJavaCompiler().run(null, null, null,
            "-d", folder.toString(), "src/main/java/MosaicCatalogue.java", file.toString());
        CHECKS.equal("the example's compilation", refused, 0);
        PrintStream usual = System.out;
        ByteArrayOutputStream printed = new ByteArrayOutputStream();
        try (URLClassLoader loader = new URLClassLoader(new URL[] {folder.toUri().toURL()}, null)) {
            System.setOut(new PrintStream(printed, true, StandardCharsets.UTF_8));
            Method main = loader.loadClass("Example").getMethod("main", String[].class);
            main.invoke(null, (Object) new String[0]);
        } finally {
            System.setOut(usual);
            clear(folder);
        }
        return printed.toString(StandardCharsets.UTF_8).replace(System.lineSeparator(), "\n");
    }

    private static void clear(Path folder) throws IOException {
        try (var files = Files.newDirectoryStream(folder)) {
            for (Path file : files) {
                Files.delete(file);
            }
        }
        Files.delete(folder);
    }

    private static void commandsAreTheCallsBesideThem(String readme) {
        Matcher rows = TABLE_ROW.matcher(readme);
        int count = 0;
        while (rows.find()) {
            count++;
            String command = rows.group(1);
            CHECKS.equal("a call stands beside " + command, CALLS.containsKey(rows.group(2)), true);
            for (boolean isPlaced : List.of(false, true)) {
                MosaicCatalogue called = thirteen(isPlaced);
                MosaicCatalogue told = thirteen(isPlaced);
                Object answer = Checks.outcome(() -> CALLS.get(rows.group(2)).apply(called));
                boolean wasRefused = answer instanceof String;
                Object due = wasRefused ? "UnsupportedOperationException" : (Object) 1;
                CHECKS.equal(command + " beside " + rows.group(2), Checks.execute(told, command), due);
                CHECKS.equal(command + " does the same", fragments(told), fragments(called));
            }
        }
        CHECKS.equal("commands in the table", count, CALLS.size());
    }

    /** Ids 0 to 12, where the first and the last are placed or in the tray; 1 is placed. */
    private static MosaicCatalogue thirteen(boolean isPlaced) {
        MosaicCatalogue x = new MosaicCatalogue();
        for (int id = 0; id < 13; id++) {
            x.addFragment((char) ('a' + id % 6), id, 15 - id, id + 1, 14 - id);
        }
        x.place(1, 3, 3);
        if (isPlaced) {
            x.place(0, 5, 5);
            x.place(12, 0, 7);
        }
        return x;
    }

    private static String fragments(MosaicCatalogue x) {
        return Checks.picture(x).replaceAll(" failed .*", "");
    }

    private static void eachCallIsNamed(String readme) {
        for (Method method : MosaicCatalogue.class.getDeclaredMethods()) {
            if (Modifier.isPublic(method.getModifiers())) {
                CHECKS.equal(method.getName() + " is named", readme.contains("`" + method.getName() + "`"), true);
            }
        }
    }

    private static void eachTestIsNamed(String readme) throws IOException {
        try (var files = Files.newDirectoryStream(TESTS, "*.java")) {
            for (Path file : files) {
                String name = file.getFileName().toString().replace(".java", "");
                CHECKS.equal(name + " is named", readme.contains("`" + name + "`"), true);
            }
        }
    }
}
