import java.util.function.Supplier;

/** Counts the checks of one test class and tells each that went wrong. */
final class Checks {
    private int made;
    private int wrong;

    void equal(String what, Object got, Object want) {
        made++;
        if (!want.equals(got)) {
            wrong++;
            System.out.println(what + ": answered " + got + ", due is " + want);
        }
    }

    /** Checks that a call throws exactly this exception and that nothing of the catalogue changes by it. */
    void fails(String what, Class<? extends RuntimeException> want, MosaicCatalogue catalogue, Supplier<?> call) {
        String before = picture(catalogue);
        equal(what, outcome(call), want.getSimpleName());
        equal(what + " changes nothing", picture(catalogue), before);
    }

    /** The answer of a call, or the simple name of the exception that it throws. */
    static Object outcome(Supplier<?> call) {
        try {
            return call.get();
        } catch (RuntimeException thrown) {
            return thrown.getClass().getSimpleName();
        }
    }

    /** All that can be read of a catalogue without changing it. */
    static String picture(MosaicCatalogue catalogue) {
        StringBuilder text = new StringBuilder();
        for (int id = 0; id < 600; id++) {
            if (catalogue.exists(id)) {
                text.append(id).append(catalogue.colour(id)).append(catalogue.turn(id)).append('/');
                for (int side = 0; side < 4; side++) {
                    text.append(catalogue.edge(id, side)).append(',');
                }
                text.append(catalogue.isPlaced(id) ? catalogue.cell(id) : -1).append(';');
            }
        }
        for (int row = 0; row < 8; row++) {
            for (int column = 0; column < 8; column++) {
                text.append(catalogue.isEmpty(row, column) ? "." : "" + catalogue.fragmentAt(row, column));
            }
        }
        text.append(" undo ").append(catalogue.undoCount());
        text.append(" output ").append(output(catalogue));
        text.append(" error ").append(outcome(catalogue::errorPosition));
        text.append(" failed ").append(outcome(catalogue::failedCommand));
        return text.toString();
    }

    static String output(MosaicCatalogue catalogue) {
        StringBuilder text = new StringBuilder();
        for (int index = 0; index < 100; index++) {
            Object sign = outcome(after(catalogue, index));
            if (!(sign instanceof Character)) {
                break;
            }
            text.append(sign);
        }
        return text.toString();
    }

    private static Supplier<Character> after(MosaicCatalogue catalogue, int index) {
        return () -> catalogue.outputCharacter(index);
    }

    static void feed(MosaicCatalogue catalogue, String text) {
        for (int index = 0; index < text.length(); index++) {
            catalogue.feed(text.charAt(index));
        }
    }

    static Object execute(MosaicCatalogue catalogue, String text) {
        feed(catalogue, text);
        return outcome(catalogue::execute);
    }

    void finish(String name) {
        System.out.println(name + ": " + made + " checks, " + wrong + " wrong");
        if (wrong > 0) {
            System.exit(1);
        }
    }
}
