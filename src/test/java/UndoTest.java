import java.util.function.Function;

/** Promises 52 to 55: undo and the saved state. */
public final class UndoTest {
    private static final Checks CHECKS = new Checks();

    public static void main(String[] arguments) {
        promise52EachChange();
        promise52EightChanges();
        promise52RefusedCallsAreNoChanges();
        promise52NothingToUndo();
        promise52NextId();
        promise53UndoCount();
        promise54Save();
        promise55Restore();
        promise55NothingSaved();
        promise55SavedTwice();
        CHECKS.finish("UndoTest");
    }

    private static MosaicCatalogue example() {
        MosaicCatalogue x = new MosaicCatalogue();
        x.addFragment('a', 1, 2, 4, 8);
        x.addFragment('b', 14, 13, 11, 7);
        x.addFragment('c', 0, 15, 0, 15);
        x.place(0, 3, 3);
        x.place(1, 0, 0);
        x.setTurn(2, 1);
        return x;
    }

    /** The picture without the number of changes, which undo is to answer. */
    private static String state(MosaicCatalogue x) {
        return Checks.picture(x).replaceAll("undo \\d+", "");
    }

    private static void undoes(String what, MosaicCatalogue x, Function<MosaicCatalogue, ?> change) {
        String before = state(x);
        int count = x.undoCount();
        change.apply(x);
        CHECKS.equal(what + " is a change", x.undoCount(), count + 1);
        CHECKS.equal(what + " is undone", x.undo(), count);
        CHECKS.equal(what + " leaves nothing", state(x), before);
    }

    private static void promise52EachChange() {
        undoes("addFragment", example(), x -> x.addFragment('d', 1, 2, 3, 4));
        undoes("removeFragment", example(), x -> x.removeFragment(2));
        undoes("place", example(), x -> x.place(2, 7, 7));
        undoes("takeBack", example(), x -> x.takeBack(0));
        undoes("setTurn", example(), x -> x.setTurn(0, 3));
        undoes("setTurn to the same", example(), x -> x.setTurn(2, 1));
        undoes("swap", example(), x -> x.swap(0, 1));
        undoes("placeGuess", example(), x -> x.placeGuess(0, 1));
        MosaicCatalogue filled = example();
        filled.takeBack(1);
        undoes("fill", filled, x -> x.fill());
        undoes("fill of none", new MosaicCatalogue(), x -> x.fill());
        MosaicCatalogue fed = example();
        Checks.feed(fed, "take 0;put 2@55;new a0000;drop 3");
        undoes("execute", fed, x -> x.execute());
    }

    private static void promise52EightChanges() {
        MosaicCatalogue x = new MosaicCatalogue();
        for (int id = 0; id < 12; id++) {
            x.addFragment('a', id, id, id, id);
        }
        for (int left = 7; left >= 0; left--) {
            CHECKS.equal("undo", x.undo(), left);
            CHECKS.equal("the latest first", x.fragmentCount(), 4 + left);
        }
        CHECKS.fails("the ninth", IllegalStateException.class, x, x::undo);
        CHECKS.equal("ids go on from there", x.addFragment('b', 0, 0, 0, 0), 4);
        x.place(4, 0, 0);
        x.place(3, 1, 0);
        CHECKS.equal("a change after undoing", x.undo(), 2);
        x.setTurn(4, 2);
        CHECKS.equal("and again", x.undo(), 2);
        CHECKS.equal("4 is placed", x.undo(), 1);
        CHECKS.equal("not now", x.isPlaced(4), false);
        CHECKS.equal("it is there", x.undo(), 0);
        CHECKS.equal("it is gone", x.exists(4), false);
    }

    private static void promise52RefusedCallsAreNoChanges() {
        MosaicCatalogue x = example();
        x.setTurn(2, 2);
        x.setTurn(2, 3);
        x.setTurn(2, 0);
        CHECKS.fails("addFragment", IllegalArgumentException.class, x, () -> x.addFragment('x', 0, 0, 0, 0));
        CHECKS.fails("removeFragment", IllegalStateException.class, x, () -> x.removeFragment(0));
        CHECKS.fails("place", IllegalStateException.class, x, () -> x.place(0, 1, 1));
        CHECKS.fails("takeBack", IllegalStateException.class, x, () -> x.takeBack(2));
        CHECKS.fails("setTurn", IllegalArgumentException.class, x, () -> x.setTurn(2, 4));
        CHECKS.fails("swap", IllegalStateException.class, x, () -> x.swap(1, 2));
        CHECKS.fails("placeGuess", UnsupportedOperationException.class, x, () -> x.placeGuess(7, 7));
        CHECKS.fails("restore", IllegalStateException.class, x, x::restore);
        int[] due = {3, 2, 1, 0, 0, 0, -1};
        for (int step = 0; step < 7; step++) {
            x.undo();
            CHECKS.equal("turn after " + step, x.exists(2) ? x.turn(2) : -1, due[step]);
        }
    }

    private static void promise52NothingToUndo() {
        MosaicCatalogue x = new MosaicCatalogue();
        CHECKS.fails("at first", IllegalStateException.class, x, x::undo);
        x.fill();
        CHECKS.equal("a fill of none", x.undo(), 0);
        CHECKS.fails("then", IllegalStateException.class, x, x::undo);
        x.feed('a');
        x.writeRow(0);
        x.save();
        CHECKS.fails("no changes", IllegalStateException.class, x, x::undo);
    }

    private static void promise52NextId() {
        MosaicCatalogue x = new MosaicCatalogue();
        x.addFragment('a', 0, 0, 0, 0);
        x.addFragment('b', 0, 0, 0, 0);
        x.undo();
        CHECKS.equal("the id is given again", x.addFragment('c', 0, 0, 0, 0), 1);
        x.removeFragment(1);
        x.undo();
        CHECKS.equal("it is back", x.colour(1), 'c');
        CHECKS.equal("the next id", x.addFragment('d', 0, 0, 0, 0), 2);
    }

    private static void promise53UndoCount() {
        MosaicCatalogue x = new MosaicCatalogue();
        CHECKS.equal("at first", x.undoCount(), 0);
        for (int step = 1; step <= 12; step++) {
            x.addFragment('a', 0, 0, 0, 0);
            CHECKS.equal("after " + step, x.undoCount(), Math.min(step, 8));
        }
        x.undo();
        CHECKS.equal("after undo", x.undoCount(), 7);
        x.fragmentCount();
        x.writeFragment(0);
        x.feed('x');
        x.save();
        CHECKS.equal("other calls are no changes", x.undoCount(), 7);
        x.restore();
        CHECKS.equal("after restore", x.undoCount(), 0);
        x.setTurn(0, 0);
        CHECKS.equal("after a change", x.undoCount(), 1);
    }

    private static void promise54Save() {
        MosaicCatalogue x = example();
        CHECKS.equal("placed ones are counted", x.save(), 3);
        CHECKS.equal("changes can still be undone", x.undoCount(), 6);
        x.removeFragment(2);
        CHECKS.equal("in place of the former", x.save(), 2);
        x.takeBack(0);
        CHECKS.equal("restore", x.restore(), 2);
        CHECKS.equal("the latter was kept", x.exists(2), false);
        CHECKS.equal("0 is placed", x.cell(0), 27);
        CHECKS.equal("an empty one", new MosaicCatalogue().save(), 0);
    }

    private static void promise55Restore() {
        MosaicCatalogue x = example();
        x.save();
        String before = state(x);
        x.addFragment('f', 1, 1, 1, 1);
        x.swap(0, 1);
        x.setTurn(0, 2);
        x.removeFragment(2);
        x.takeBack(1);
        CHECKS.equal("restore", x.restore(), 3);
        CHECKS.equal("all is back", state(x), before);
        CHECKS.fails("no change can be undone", IllegalStateException.class, x, x::undo);
        CHECKS.equal("the next id is back", x.addFragment('f', 2, 2, 2, 2), 3);
        x.takeBack(0);
        CHECKS.equal("the later changes", x.undo(), 1);
        CHECKS.equal("can be undone", x.undo(), 0);
        CHECKS.equal("it is the saved state", state(x), before);
        x.removeFragment(2);
        CHECKS.equal("it stays saved", x.restore(), 3);
        CHECKS.equal("all is back again", state(x), before);
        CHECKS.equal("restore at once", x.restore(), 3);
        x.undoCount();
        MosaicCatalogue y = example();
        y.save();
        y.undo();
        y.undo();
        CHECKS.equal("undo leaves the saved state", y.restore(), 3);
        CHECKS.equal("as it was", state(y), before);
    }

    private static void promise55NothingSaved() {
        MosaicCatalogue x = example();
        CHECKS.fails("nothing was saved", IllegalStateException.class, x, x::restore);
        CHECKS.equal("changes can still be undone", x.undoCount(), 6);
        MosaicCatalogue empty = new MosaicCatalogue();
        empty.save();
        empty.addFragment('a', 0, 0, 0, 0);
        CHECKS.equal("nothing is a state too", empty.restore(), 0);
        CHECKS.equal("no fragment is left", empty.exists(0), false);
        CHECKS.equal("the first id again", empty.addFragment('a', 0, 0, 0, 0), 0);
        empty.setTurn(0, 3);
        empty.place(0, 4, 4);
        empty.restore();
        empty.addFragment('b', 0, 0, 0, 0);
        CHECKS.equal("a new one is in the tray", empty.isPlaced(0), false);
        CHECKS.equal("a new one is not turned", empty.turn(0), 0);
        CHECKS.equal("the grid is empty", empty.placedMask(), 0L);
    }

    private static void promise55SavedTwice() {
        MosaicCatalogue x = example();
        x.save();
        x.restore();
        x.setTurn(0, 3);
        x.place(2, 4, 3);
        x.save();
        x.takeBack(0);
        CHECKS.equal("undo after save", x.undo(), 2);
        x.undo();
        x.restore();
        CHECKS.equal("the turn", x.turn(0), 3);
        CHECKS.equal("the cell", x.cell(2), 35);
        CHECKS.equal("the gaps are right", x.isConsistent(), true);
        CHECKS.equal("the grid is right", x.fragmentAt(4, 3), 2);
    }
}
