import java.io.IOException;
import java.lang.reflect.Constructor;
import java.lang.reflect.Field;
import java.lang.reflect.Method;
import java.lang.reflect.Modifier;
import java.nio.file.Files;
import java.nio.file.Path;
import java.util.HashSet;
import java.util.Set;
import java.util.TreeSet;
import java.util.regex.Matcher;
import java.util.regex.Pattern;

/** The face of the document, and those rules of LANGUAGE.md that can be seen from the text or the class. */
public final class LanguageTest {
    private static final Checks CHECKS = new Checks();
    private static final Path PROGRAM = Path.of("src/main/java/MosaicCatalogue.java");
    private static final Path DOCUMENT = Path.of("../shared/DOC.md");
    private static final String[] FORBIDDEN = {
        "->", "::", "\\btry\\b", "\\bcatch\\b", "\\bfinally\\b", "\\bsynchronized\\b", "\\bassert\\b", "Exact\\(",
        "\\bFloat\\b", "\\bDouble\\b", "\\bSystem\\.(?!arraycopy)", "\\bThread\\b", "\\bRandom\\b", "static \\{",
        "\\.equals\\(", "hashCode", "toString", "String\\[\\]", "\" \\+", "\\+ \"", "\\bMath\\.(?!max|min)"
    };

    public static void main(String[] arguments) throws IOException {
        faceOfTheDocument();
        nothingElseIsOpen();
        noStaticState();
        forbiddenWords();
        CHECKS.finish("LanguageTest");
    }

    private static String flat(String text) {
        return text.replaceAll("\\s+", " ");
    }

    private static void faceOfTheDocument() throws IOException {
        String program = flat(Files.readString(PROGRAM));
        Matcher heads = Pattern.compile("(?m)^    (public [^;]*);$").matcher(Files.readString(DOCUMENT));
        int count = 0;
        while (heads.find()) {
            count++;
            CHECKS.equal(heads.group(1), program.contains(flat(heads.group(1)) + " {"), true);
        }
        CHECKS.equal("heads in the document", count, 55);
        CHECKS.equal("the class", program.contains("public final class MosaicCatalogue {"), true);
    }

    private static void nothingElseIsOpen() {
        Set<String> open = new TreeSet<>();
        Set<String> hidden = new TreeSet<>();
        int opened = 0;
        for (Method method : MosaicCatalogue.class.getDeclaredMethods()) {
            if (Modifier.isPrivate(method.getModifiers())) {
                hidden.add(method.getName());
            } else {
                opened++;
                open.add(method.getName());
            }
            CHECKS.equal(method + " parameters", method.getParameterCount() <= 7, true);
        }
        CHECKS.equal("open methods", opened, 54);
        hidden.retainAll(open);
        CHECKS.equal("hidden methods with open names", hidden, new HashSet<String>());
        for (Field field : MosaicCatalogue.class.getDeclaredFields()) {
            CHECKS.equal(field + " is private", Modifier.isPrivate(field.getModifiers()), true);
        }
        for (Constructor<?> constructor : MosaicCatalogue.class.getDeclaredConstructors()) {
            CHECKS.equal("constructor parameters", constructor.getParameterCount(), 0);
        }
    }

    private static void noStaticState() {
        CHECKS.equal("classes", MosaicCatalogue.class.getDeclaredClasses().length <= 12, true);
        checkFields(MosaicCatalogue.class);
        for (Class<?> inside : MosaicCatalogue.class.getDeclaredClasses()) {
            CHECKS.equal(inside + " is static", Modifier.isStatic(inside.getModifiers()), true);
            CHECKS.equal(inside + " is not open", inside.getModifiers() & (Modifier.PUBLIC | Modifier.PROTECTED), 0);
            checkFields(inside);
        }
    }

    private static void checkFields(Class<?> holder) {
        int fields = 0;
        for (Field field : holder.getDeclaredFields()) {
            if (Modifier.isStatic(field.getModifiers())) {
                CHECKS.equal(field + " is final", Modifier.isFinal(field.getModifiers()), true);
            } else {
                fields++;
            }
        }
        CHECKS.equal(holder + " fields", fields <= 20, true);
    }

    private static void forbiddenWords() throws IOException {
        String program = Files.readString(PROGRAM).replaceAll("(?s)/\\*.*?\\*/", "").replaceAll("//[^\n]*", "");
        for (String word : FORBIDDEN) {
            Matcher found = Pattern.compile(word).matcher(program);
            CHECKS.equal("forbidden " + word, found.find(), false);
        }
        Matcher imports = Pattern.compile("import ([^;]*);").matcher(program);
        while (imports.find()) {
            CHECKS.equal("import", imports.group(1), "java.util.NoSuchElementException");
        }
        CHECKS.equal("only characters 1 to 126", program.chars().allMatch(sign -> sign >= 1 && sign <= 126), true);
    }
}
