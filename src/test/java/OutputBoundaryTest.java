import java.util.NoSuchElementException;

/** Promises 45 to 47: a test for each sentence that names a boundary case. */
public final class OutputBoundaryTest {
    private static final Checks CHECKS = new Checks();
    private static final Twins FRESH = new Twins(CHECKS, Examples::fresh);
    private static final Twins RICH = new Twins(CHECKS, Examples::rich);
    private static final Twins FULL_TRAY = new Twins(CHECKS, Examples::fullTray);
    // In Examples.rich: 5 was removed, 7 is the id that is given next; the output is "a1248@33".
    private static final int[] NO_IDS = {-1, 5, 7, 8, 20, 64, Integer.MIN_VALUE, Integer.MAX_VALUE, 1 << 16};

    public static void main(String[] arguments) throws IllegalAccessException {
        CHECKS.runPromises(OutputBoundaryTest.class);
    }

    private static void rowIs(MosaicCatalogue x, int row, String due) {
        CHECKS.equal("length of row " + row, x.writeRow(row), 8);
        CHECKS.equal("row " + row, Checks.output(x), due);
    }

    private static void fragmentIs(MosaicCatalogue x, int id, String due) {
        CHECKS.equal("length of " + due, x.writeFragment(id), due.length());
        CHECKS.equal("fragment " + id, Checks.output(x), due);
    }

    private static void promise45RowIsNotFrom0To7() {
        for (int row : Examples.NO_LINES) {
            RICH.refuses("row " + row, IndexOutOfBoundsException.class, x -> x.writeRow(row));
            FRESH.refuses("row " + row + " of a new object", IndexOutOfBoundsException.class, x -> x.writeRow(row));
        }
    }

    private static void promise45FirstAndLastRow() {
        MosaicCatalogue x = Examples.alike(0, 0, 0, 0, 0, 63);
        rowIs(x, 0, "a+......");
        rowIs(x, 1, "+.......");
        rowIs(x, 6, ".......+");
        rowIs(x, 7, "......+a");
    }

    private static void promise45TheBordersDoNotWrapAround() {
        MosaicCatalogue x = Examples.alike(0, 0, 0, 0, 31, 32);
        rowIs(x, 3, "+.....+a");
        rowIs(x, 4, "a+.....+");
        rowIs(x, 2, ".......+");
        rowIs(x, 5, "+.......");
    }

    private static void promise45EmptyGridAndFullRow() {
        for (int row = 0; row <= 7; row++) {
            rowIs(new MosaicCatalogue(), row, "........");
            rowIs(Examples.fullTray(), row, "........");
        }
        MosaicCatalogue x = Examples.checkered(8);
        for (int column = 0; column <= 7; column++) {
            x.place(column, 4, column);
        }
        rowIs(x, 3, "++++++++");
        rowIs(x, 4, "abcdefab");
        rowIs(x, 5, "++++++++");
        rowIs(x, 6, "........");
    }

    private static void promise45TheExample() {
        MosaicCatalogue x = new MosaicCatalogue();
        x.place(x.addFragment('a', 0, 0, 0, 0), 2, 2);
        x.place(x.addFragment('b', 0, 0, 0, 0), 2, 3);
        rowIs(x, 2, ".+ab+...");
    }

    private static void promise45ReplacesThePreviousOne() {
        MosaicCatalogue x = Examples.checkered(1);
        x.writeFragment(0);
        rowIs(x, 0, "........");
        x.place(0, 0, 7);
        CHECKS.equal("it is as it was written", Checks.output(x), "........");
        rowIs(x, 0, "......+a");
    }

    private static void promise46NoSuchFragment() {
        for (int id : NO_IDS) {
            RICH.refuses("fragment " + id, NoSuchElementException.class, x -> x.writeFragment(id));
        }
        FRESH.refuses("fragment 0 of none", NoSuchElementException.class, x -> x.writeFragment(0));
        FULL_TRAY.refuses("fragment 20 of twenty", NoSuchElementException.class, x -> x.writeFragment(20));
    }

    private static void promise46DigitsFrom0ToF() {
        MosaicCatalogue x = new MosaicCatalogue();
        String digits = "0123456789abcdef";
        for (int pattern = 0; pattern <= 15; pattern++) {
            x.addFragment('b', pattern, 15 - pattern, pattern, 0);
            char one = digits.charAt(pattern);
            char other = digits.charAt(15 - pattern);
            fragmentIs(x, pattern, "b" + one + other + one + "0");
        }
    }

    private static void promise46ColoursFromAToF() {
        MosaicCatalogue x = new MosaicCatalogue();
        for (char colour = 'a'; colour <= 'f'; colour++) {
            fragmentIs(x, x.addFragment(colour, 1, 2, 3, 4), colour + "1234");
        }
    }

    private static void promise46EachTurnWrapsAround() {
        MosaicCatalogue x = new MosaicCatalogue();
        x.addFragment('c', 0, 15, 3, 10);
        String[] due = {"c0f3a", "ca0f3", "c3a0f", "cf3a0"};
        for (int turn = 0; turn <= 3; turn++) {
            x.setTurn(0, turn);
            fragmentIs(x, 0, due[turn]);
        }
        x.place(0, 0, 0);
        fragmentIs(x, 0, "cf3a0@00");
    }

    private static void promise46FirstAndLastCell() {
        MosaicCatalogue x = new MosaicCatalogue();
        x.addFragment('c', 0, 15, 3, 10);
        int[] cells = {0, 7, 56, 63, 21};
        String[] due = {"@00", "@07", "@70", "@77", "@25"};
        for (int index = 0; index < cells.length; index++) {
            x.place(0, cells[index] / 8, cells[index] % 8);
            fragmentIs(x, 0, "c0f3a" + due[index]);
            x.takeBack(0);
            fragmentIs(x, 0, "c0f3a");
        }
    }

    private static void promise46AShorterOutputReplacesALongerOne() {
        MosaicCatalogue x = Examples.checkered(1);
        x.writeRow(3);
        fragmentIs(x, 0, "a0000");
        for (int index = 5; index <= 8; index++) {
            int there = index;
            CHECKS.equal("no character " + index, Checks.outcome(() -> x.outputCharacter(there)),
                    "IndexOutOfBoundsException");
        }
    }

    private static void promise47EmptyAtFirst() {
        FRESH.refuses("index 0", IndexOutOfBoundsException.class, x -> x.outputCharacter(0));
        FRESH.refuses("index -1", IndexOutOfBoundsException.class, x -> x.outputCharacter(-1));
        FULL_TRAY.refuses("nothing was written", IndexOutOfBoundsException.class, x -> x.outputCharacter(0));
    }

    private static void promise47NoSuchCharacter() {
        for (int index : Examples.FAR_OFF) {
            RICH.refuses("index " + index, IndexOutOfBoundsException.class, x -> x.outputCharacter(index));
        }
        RICH.refuses("index 8 of 8", IndexOutOfBoundsException.class, x -> x.outputCharacter(8));
    }

    private static void promise47NoSuchCharacterOfAShortOutput() {
        Twins five = new Twins(CHECKS, () -> {
            MosaicCatalogue x = Examples.checkered(2);
            x.place(0, 0, 0);
            x.writeRow(0);
            x.writeFragment(1);
            return x;
        });
        five.answers("index 4 of 5", 'f', x -> x.outputCharacter(4));
        five.refuses("index 5 of 5", IndexOutOfBoundsException.class, x -> x.outputCharacter(5));
        five.refuses("index 7 of 5", IndexOutOfBoundsException.class, x -> x.outputCharacter(7));
    }

    private static void promise47FirstAndLastCharacter() {
        String due = "a1248@33";
        for (int index = 0; index < 8; index++) {
            int there = index;
            RICH.answers("index " + index, due.charAt(index), x -> x.outputCharacter(there));
        }
    }

    private static void promise47UndoAndSavingLeaveTheOutput() {
        MosaicCatalogue x = Examples.rich();
        x.undo();
        CHECKS.equal("after undo", Checks.output(x), "a1248@33");
        x.save();
        CHECKS.equal("after save", Checks.output(x), "a1248@33");
        x.takeBack(0);
        x.restore();
        CHECKS.equal("after restore", Checks.output(x), "a1248@33");
        Checks.outcome(x::execute);
        CHECKS.equal("after a malformed text", Checks.output(x), "a1248@33");
    }
}
