import java.lang.reflect.InvocationTargetException;
import java.lang.reflect.Method;
import java.util.ArrayList;
import java.util.Comparator;
import java.util.List;
import java.util.function.Supplier;
import java.util.regex.Matcher;
import java.util.regex.Pattern;

/** Counts the checks of one test class and tells each that went wrong. */
final class Checks {
    private static final Pattern PROMISE = Pattern.compile("promise(\\d+)\\D.*");
    private int made;
    private int wrong;

    void equal(String what, Object got, Object want) {
        made++;
        if (!want.equals(got)) {
            wrong++;
            System.out.println(what + ": answered " + got + ", due is " + want);
        }
    }

    /**
     * Checks that a call throws exactly this exception and that what can be told in few calls stays as it was, so
     * that an object can be asked often within its 512 calls; Twins look at everything.
     */
    void fails(String what, Class<? extends RuntimeException> want, MosaicCatalogue catalogue, Supplier<?> call) {
        String before = glance(catalogue);
        equal(what, outcome(call), want.getSimpleName());
        equal(what + " changes nothing", glance(catalogue), before);
    }

    private static String glance(MosaicCatalogue catalogue) {
        return catalogue.fragmentCount() + " " + catalogue.placedMask() + " " + catalogue.undoCount();
    }

    /** The answer of a call, or the simple name of the exception that it throws. */
    static Object outcome(Supplier<?> call) {
        try {
            return call.get();
        } catch (RuntimeException thrown) {
            return thrown.getClass().getSimpleName();
        }
    }

    /** All that can be read of the fragments, the history and the output without changing them. */
    static String picture(MosaicCatalogue catalogue) {
        StringBuilder text = new StringBuilder();
        int trayCount = catalogue.trayCount();
        for (int position = 0; position < trayCount; position++) {
            describe(catalogue, catalogue.inTray(position), text);
        }
        long placed = catalogue.placedMask();
        for (int cell = 0; cell < 64; cell++) {
            if ((placed >>> cell & 1) == 1) {
                text.append('@').append(cell).append(':');
                describe(catalogue, catalogue.fragmentAt(cell / 8, cell % 8), text);
            }
        }
        text.append(" undo ").append(catalogue.undoCount());
        text.append(" output ").append(output(catalogue));
        text.append(" error ").append(outcome(catalogue::errorPosition));
        text.append(" failed ").append(outcome(catalogue::failedCommand));
        return text.toString();
    }

    private static void describe(MosaicCatalogue catalogue, int id, StringBuilder text) {
        text.append(id).append(catalogue.colour(id)).append(catalogue.turn(id)).append('/');
        for (int side = 0; side < 4; side++) {
            text.append(catalogue.edge(id, side)).append(',');
        }
        text.append(catalogue.isPlaced(id) ? catalogue.cell(id) : -1).append(';');
    }

    static String output(MosaicCatalogue catalogue) {
        StringBuilder text = new StringBuilder();
        for (int index = 0; index < 9; index++) {
            Object sign = outcome(after(catalogue, index));
            if (!(sign instanceof Character)) {
                break;
            }
            text.append(sign);
        }
        return text.toString();
    }

    private static Supplier<Character> after(MosaicCatalogue catalogue, int index) {
        return () -> catalogue.outputCharacter(index);
    }

    static void feed(MosaicCatalogue catalogue, String text) {
        for (int index = 0; index < text.length(); index++) {
            catalogue.feed(text.charAt(index));
        }
    }

    static Object execute(MosaicCatalogue catalogue, String text) {
        feed(catalogue, text);
        return outcome(catalogue::execute);
    }

    /** Runs each static method of a class whose name begins with promise, by the promises' numbers. */
    void runPromises(Class<?> tests) throws IllegalAccessException {
        List<Method> methods = new ArrayList<>();
        for (Method method : tests.getDeclaredMethods()) {
            if (PROMISE.matcher(method.getName()).matches()) {
                methods.add(method);
            }
        }
        methods.sort(Comparator.comparingInt(Checks::promiseOf).thenComparing(Method::getName));
        for (Method method : methods) {
            runPromise(method);
        }
        System.out.println(methods.size() + " tests");
        finish(tests.getSimpleName());
    }

    /** A test that is ended by an exception is wrong, and the others are run all the same. */
    private void runPromise(Method method) throws IllegalAccessException {
        int wrongBefore = wrong;
        method.setAccessible(true);
        try {
            method.invoke(null);
        } catch (InvocationTargetException thrown) {
            wrong++;
            thrown.getCause().printStackTrace(System.out);
        }
        if (wrong > wrongBefore) {
            System.out.println("WRONG: " + method.getName());
        }
    }

    private static int promiseOf(Method method) {
        Matcher name = PROMISE.matcher(method.getName());
        return name.matches() ? Integer.parseInt(name.group(1)) : 0;
    }

    void finish(String name) {
        System.out.println(name + ": " + made + " checks, " + wrong + " wrong");
        if (wrong > 0) {
            System.exit(1);
        }
    }
}
