import java.util.NoSuchElementException;

/** Promises 45 to 47: the output. */
public final class OutputTest {
    private static final Checks CHECKS = new Checks();

    public static void main(String[] arguments) {
        promise45WriteRow();
        promise46WriteFragment();
        promise47OutputCharacter();
        CHECKS.finish("OutputTest");
    }

    private static void rowIs(MosaicCatalogue x, int row, String due) {
        CHECKS.equal("length of row " + row, x.writeRow(row), 8);
        CHECKS.equal("row " + row, Checks.output(x), due);
    }

    private static void fragmentIs(MosaicCatalogue x, int fragment, String due) {
        CHECKS.equal("length of fragment " + fragment, x.writeFragment(fragment), due.length());
        CHECKS.equal("fragment " + fragment, Checks.output(x), due);
    }

    private static MosaicCatalogue example() {
        MosaicCatalogue x = new MosaicCatalogue();
        x.addFragment('a', 0, 9, 10, 15);
        x.addFragment('b', 1, 2, 3, 4);
        x.addFragment('c', 0, 15, 3, 10);
        x.addFragment('f', 11, 12, 13, 14);
        x.place(0, 2, 2);
        x.place(1, 2, 3);
        x.place(2, 7, 0);
        return x;
    }

    private static void promise45WriteRow() {
        MosaicCatalogue x = example();
        rowIs(x, 0, "........");
        rowIs(x, 1, "..++....");
        rowIs(x, 2, ".+ab+...");
        rowIs(x, 6, "+.......");
        rowIs(x, 7, "c+......");
        for (int row : new int[] {-1, 8, Integer.MIN_VALUE, Integer.MAX_VALUE}) {
            CHECKS.fails("row " + row, IndexOutOfBoundsException.class, x, () -> x.writeRow(row));
        }
        x.place(3, 7, 7);
        CHECKS.equal("an output stays as it was", Checks.output(x), "c+......");
        rowIs(x, 7, "c+....+f");
        rowIs(new MosaicCatalogue(), 7, "........");
    }

    private static void promise46WriteFragment() {
        MosaicCatalogue x = example();
        fragmentIs(x, 0, "a09af@22");
        fragmentIs(x, 3, "fbcde");
        fragmentIs(x, 2, "c0f3a@70");
        x.setTurn(2, 1);
        x.setTurn(3, 3);
        fragmentIs(x, 2, "ca0f3@70");
        fragmentIs(x, 3, "fcdeb");
        CHECKS.fails("no character of the longer one", IndexOutOfBoundsException.class, x,
                () -> x.outputCharacter(5));
        for (int id : new int[] {-1, 4, Integer.MIN_VALUE, Integer.MAX_VALUE}) {
            CHECKS.fails("fragment " + id, NoSuchElementException.class, x, () -> x.writeFragment(id));
        }
        x.takeBack(2);
        x.place(2, 2, 5);
        x.setTurn(2, 0);
        fragmentIs(x, 2, "c0f3a@25");
    }

    private static void promise47OutputCharacter() {
        MosaicCatalogue x = example();
        CHECKS.fails("empty at first", IndexOutOfBoundsException.class, x, () -> x.outputCharacter(0));
        x.writeRow(2);
        CHECKS.equal("character 0", x.outputCharacter(0), '.');
        CHECKS.equal("character 3", x.outputCharacter(3), 'b');
        CHECKS.equal("character 7", x.outputCharacter(7), '.');
        for (int index : new int[] {-1, 8, Integer.MIN_VALUE, Integer.MAX_VALUE}) {
            CHECKS.fails("character " + index, IndexOutOfBoundsException.class, x, () -> x.outputCharacter(index));
        }
        x.save();
        x.writeFragment(3);
        x.undo();
        CHECKS.equal("undo leaves the output", Checks.output(x), "fbcde");
        x.restore();
        CHECKS.equal("restore leaves the output", Checks.output(x), "fbcde");
    }
}
