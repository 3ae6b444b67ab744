import java.util.ArrayList;
import java.util.List;
import java.util.NoSuchElementException;
import java.util.function.Function;
import java.util.function.Supplier;

/** Promises 52 to 55: a test for each sentence that names a boundary case. */
public final class UndoBoundaryTest {
    private static final Checks CHECKS = new Checks();
    private static final Twins FRESH = new Twins(CHECKS, Examples::fresh);
    private static final Twins RICH = new Twins(CHECKS, Examples::rich);
    private static final Twins FEW = new Twins(CHECKS, UndoBoundaryTest::fewChanges);

    public static void main(String[] arguments) throws IllegalAccessException {
        CHECKS.runPromises(UndoBoundaryTest.class);
    }

    /** Six changes, an output, an error position, a failed command and an input that one more l completes. */
    private static MosaicCatalogue fewChanges() {
        MosaicCatalogue x = new MosaicCatalogue();
        x.addFragment('a', 1, 2, 4, 8);
        x.addFragment('b', 14, 13, 11, 7);
        x.addFragment('c', 7, 7, 7, 7);
        x.save();
        x.place(0, 0, 0);
        x.writeRow(0);
        Checks.execute(x, "put 2");
        Checks.execute(x, "fill;take 9");
        Checks.feed(x, "fil");
        x.place(1, 7, 7);
        x.setTurn(2, 3);
        return x;
    }

    private static MosaicCatalogue changed(Function<MosaicCatalogue, ?> change) {
        MosaicCatalogue x = fewChanges();
        change.apply(x);
        return x;
    }

    /** The change counts as one, and undoing it leaves everything as it was. */
    private static void isUndone(String what, Function<MosaicCatalogue, ?> change) {
        CHECKS.equal(what + " is a change", changed(change).undoCount(), 7);
        CHECKS.equal(what + " is undone", changed(change).undo(), 6);
        FEW.same(what + ", undone,", () -> {
            MosaicCatalogue x = changed(change);
            x.undo();
            return x;
        });
    }

    private static void promise52ThereIsNone() {
        FRESH.refuses("a new object", IllegalStateException.class, x -> x.undo());
        Twins undone = new Twins(CHECKS, () -> {
            MosaicCatalogue x = fewChanges();
            for (int left = 5; left >= 0; left--) {
                CHECKS.equal("left", x.undo(), left);
            }
            return x;
        });
        undone.refuses("all are undone", IllegalStateException.class, x -> x.undo());
        Twins restored = new Twins(CHECKS, () -> {
            MosaicCatalogue x = fewChanges();
            x.restore();
            return x;
        });
        restored.refuses("after restore", IllegalStateException.class, x -> x.undo());
    }

    private static void promise52TheNinthOfMoreThanEight() {
        Twins undone = new Twins(CHECKS, () -> {
            MosaicCatalogue x = Examples.rich();
            for (int left = 7; left >= 0; left--) {
                CHECKS.equal("left", x.undo(), left);
            }
            return x;
        });
        undone.refuses("the ninth", IllegalStateException.class, x -> x.undo());
    }

    private static void promise52AddFragment() {
        isUndone("addFragment", x -> x.addFragment('f', 15, 0, 15, 0));
    }

    private static void promise52RemoveFragment() {
        isUndone("removeFragment", x -> x.removeFragment(2));
    }

    private static void promise52Place() {
        isUndone("place", x -> x.place(2, 7, 6));
    }

    private static void promise52TakeBack() {
        isUndone("takeBack", x -> x.takeBack(0));
    }

    private static void promise52SetTurn() {
        isUndone("setTurn", x -> x.setTurn(0, 3));
        isUndone("setTurn to the same turn", x -> x.setTurn(2, 3));
    }

    private static void promise52Swap() {
        isUndone("swap", x -> x.swap(0, 1));
    }

    private static void promise52PlaceGuess() {
        isUndone("placeGuess", x -> x.placeGuess(0, 1));
    }

    private static void promise52Fill() {
        isUndone("fill of none", x -> x.fill());
        Supplier<MosaicCatalogue> recipe = () -> Examples.alike(0, 0, 0, 0, 63, 0, 7);
        Twins before = new Twins(CHECKS, () -> {
            MosaicCatalogue x = recipe.get();
            x.addFragment('b', 15, 15, 15, 15);
            return x;
        });
        before.same("fill of one, undone,", () -> {
            MosaicCatalogue x = recipe.get();
            x.addFragment('b', 15, 15, 15, 15);
            CHECKS.equal("one is placed", x.fill(), 1);
            CHECKS.equal("seven are left", x.undo(), 7);
            return x;
        });
    }

    private static void promise52Execute() {
        FEW.same("execute, undone,", () -> {
            MosaicCatalogue x = fewChanges();
            x.feed('l');
            x.execute();
            x.undo();
            Checks.feed(x, "fil");
            return x;
        });
        FEW.same("execute of many commands, undone,", () -> {
            MosaicCatalogue x = fewChanges();
            x.feed('l');
            x.execute();
            x.undo();
            CHECKS.equal("six", Checks.execute(x, "take 0;drop 0;new f1111;put 3@00;swap 3&1;fill"), 6);
            CHECKS.equal("left", x.undo(), 6);
            Checks.feed(x, "fil");
            return x;
        });
    }

    private static void promise52RefusedCallsAreNoChanges() {
        RICH.refuses("addFragment", IllegalArgumentException.class, x -> x.addFragment('g', 0, 0, 0, 0));
        RICH.refuses("removeFragment", IllegalStateException.class, x -> x.removeFragment(0));
        RICH.refuses("place", IllegalStateException.class, x -> x.place(0, 0, 0));
        RICH.refuses("takeBack", IllegalStateException.class, x -> x.takeBack(2));
        RICH.refuses("setTurn", IllegalArgumentException.class, x -> x.setTurn(0, 4));
        RICH.refuses("swap", IllegalStateException.class, x -> x.swap(0, 2));
        RICH.refuses("placeGuess", UnsupportedOperationException.class, x -> x.placeGuess(0, 7));
    }

    private static void promise52AsManyAsEightOfAnyNumber() {
        for (int changes = 0; changes <= 20; changes++) {
            MosaicCatalogue x = new MosaicCatalogue();
            for (int id = 0; id < changes; id++) {
                x.addFragment('a', 0, 0, 0, 0);
            }
            int most = Math.min(changes, 8);
            for (int left = most - 1; left >= 0; left--) {
                CHECKS.equal(changes + " changes, left", x.undo(), left);
            }
            CHECKS.equal(changes + " changes, none left", Checks.outcome(x::undo), "IllegalStateException");
            CHECKS.equal(changes + " changes, fragments", x.fragmentCount(), changes - most);
        }
    }

    private static void promise52TheIdGivenNextIsRestored() {
        MosaicCatalogue x = Examples.fullTray();
        for (int left = 7; left >= 0; left--) {
            x.undo();
            CHECKS.equal("the id again", x.addFragment('f', 1, 1, 1, 1), 12 + left);
            x.undo();
        }
        MosaicCatalogue y = Examples.checkered(1);
        y.removeFragment(0);
        y.addFragment('b', 0, 0, 0, 0);
        y.undo();
        CHECKS.equal("not the removed one's", y.addFragment('c', 0, 0, 0, 0), 1);
        y.undo();
        y.undo();
        y.undo();
        CHECKS.equal("the first", y.addFragment('d', 0, 0, 0, 0), 0);
    }

    /** A history of changes that goes around many times, with undos between, compared with a list of turns. */
    private static void promise52TheHistoryWrapsAround() {
        for (int back = 0; back <= 8; back++) {
            MosaicCatalogue x = Examples.checkered(1);
            x.save();
            x.restore();
            List<Integer> turns = new ArrayList<>();
            turns.add(0);
            for (int step = 0; step < 30; step++) {
                int turn = (step * 7 + step / 3) % 4;
                x.setTurn(0, turn);
                turns.add(turn);
                int undos = step % 9 == 8 ? back : step % 3;
                for (int undo = 0; undo < undos && x.undoCount() > 0; undo++) {
                    x.undo();
                    turns.remove(turns.size() - 1);
                }
                CHECKS.equal(back + ", step " + step, x.turn(0), turns.get(turns.size() - 1));
            }
            for (int left = x.undoCount(); left > 0; left--) {
                x.undo();
                turns.remove(turns.size() - 1);
                CHECKS.equal(back + ", left " + left, x.turn(0), turns.get(turns.size() - 1));
            }
        }
    }

    private static void promise52AChangeAfterAnUndo() {
        MosaicCatalogue x = fewChanges();
        x.undo();
        x.undo();
        CHECKS.equal("4 of 6", x.undoCount(), 4);
        x.setTurn(0, 1);
        CHECKS.equal("one more", x.undoCount(), 5);
        CHECKS.equal("it alone is undone", x.undo(), 4);
        CHECKS.equal("the turn", x.turn(0), 0);
        CHECKS.equal("1 is in the tray", x.isPlaced(1), false);
        CHECKS.equal("0 is placed", x.isPlaced(0), true);
    }

    private static void promise52LeavesTheInput() {
        MosaicCatalogue x = fewChanges();
        x.undo();
        CHECKS.equal("the length", x.feed('l'), 4);
        CHECKS.equal("the text", x.execute(), 1);
        MosaicCatalogue y = Examples.fullInput();
        y.undo();
        CHECKS.equal("still full", Checks.outcome(() -> y.feed('f')), "IllegalStateException");
    }

    private static void promise52LeavesWhatWasSaved() {
        MosaicCatalogue x = fewChanges();
        for (int undo = 0; undo < 6; undo++) {
            x.undo();
        }
        CHECKS.equal("an empty catalogue", x.fragmentCount(), 0);
        CHECKS.equal("three were saved", x.restore(), 3);
        CHECKS.equal("the last of them", x.colour(2), 'c');
    }

    private static void promise53From0To8() {
        MosaicCatalogue x = new MosaicCatalogue();
        for (int changes = 0; changes <= 30; changes++) {
            CHECKS.equal("changes", x.undoCount(), Math.min(changes, 8));
            x.fill();
        }
        for (int left = 7; left >= 0; left--) {
            x.undo();
            CHECKS.equal("left", x.undoCount(), left);
        }
        CHECKS.equal("none", Checks.outcome(x::undo), "IllegalStateException");
        CHECKS.equal("still none", x.undoCount(), 0);
    }

    private static void promise53RestoreLeavesNone() {
        MosaicCatalogue x = Examples.rich();
        x.restore();
        CHECKS.equal("after restore", x.undoCount(), 0);
        x.setTurn(0, 1);
        CHECKS.equal("after a change", x.undoCount(), 1);
    }

    private static void promise53AskingIsNoChange() {
        RICH.answers("eight", 8, x -> x.undoCount());
        FEW.answers("six", 6, x -> x.undoCount());
        FRESH.answers("none", 0, x -> x.undoCount());
        MosaicCatalogue x = fewChanges();
        x.writeRow(0);
        x.writeFragment(0);
        x.feed('x');
        x.save();
        Checks.outcome(x::execute);
        CHECKS.equal("output, input, saving and a malformed text", x.undoCount(), 6);
    }

    private static void promise54From0To20() {
        CHECKS.equal("a new object", new MosaicCatalogue().save(), 0);
        for (int fragments = 1; fragments <= 20; fragments++) {
            CHECKS.equal("in the tray", Examples.checkered(fragments).save(), fragments);
        }
        CHECKS.equal("on the grid", Examples.allPlaced().save(), 20);
        CHECKS.equal("some of each", Examples.rich().save(), 6);
    }

    private static void promise54SavingTheSameAgainChangesNothing() {
        Twins saved = new Twins(CHECKS, () -> {
            MosaicCatalogue x = Examples.rich();
            x.save();
            return x;
        });
        saved.answers("save", 6, x -> x.save());
    }

    private static void promise54InPlaceOfWhatWasSavedBefore() {
        MosaicCatalogue x = Examples.fullTray();
        x.save();
        for (int id = 0; id < 20; id++) {
            x.removeFragment(id);
        }
        CHECKS.equal("none", x.save(), 0);
        x.addFragment('f', 1, 2, 3, 4);
        CHECKS.equal("none is restored", x.restore(), 0);
        CHECKS.equal("the first is not there", x.exists(0), false);
        CHECKS.equal("nor the last", x.exists(20), false);
        CHECKS.equal("the next id", x.addFragment('f', 1, 2, 3, 4), 20);
    }

    private static void promise54LaterChangesLeaveIt() {
        MosaicCatalogue x = Examples.allPlaced();
        x.save();
        for (int id = 0; id < 20; id++) {
            x.setTurn(id, 3);
            x.takeBack(id);
            x.removeFragment(id);
        }
        CHECKS.equal("all are back", x.restore(), 20);
        for (int id = 0; id < 20; id++) {
            CHECKS.equal("turn of " + id, x.turn(id), 0);
        }
        CHECKS.equal("on their cells", x.placedMask(), 0x0F0F0F0F0FL);
        CHECKS.equal("with their edges", x.joinCount(), 31);
    }

    private static void promise55NothingWasSaved() {
        FRESH.refuses("a new object", IllegalStateException.class, x -> x.restore());
        Twins full = new Twins(CHECKS, Examples::fullTray);
        full.refuses("after changes", IllegalStateException.class, x -> x.restore());
        Twins input = new Twins(CHECKS, Examples::fullInput);
        input.refuses("with a full input", IllegalStateException.class, x -> x.restore());
    }

    private static void promise55From0To20() {
        for (int fragments = 0; fragments <= 20; fragments++) {
            MosaicCatalogue x = Examples.checkered(fragments);
            x.save();
            CHECKS.equal("at once", x.restore(), fragments);
            CHECKS.equal("fragments", x.fragmentCount(), fragments);
        }
    }

    private static void promise55EverythingThatChangesCanChange() {
        Twins saved = new Twins(CHECKS, () -> {
            MosaicCatalogue x = Examples.rich();
            x.save();
            x.restore();
            return x;
        });
        saved.same("after all kinds of changes, restore", () -> {
            MosaicCatalogue x = Examples.rich();
            x.save();
            x.swap(0, 4);
            x.takeBack(1);
            x.setTurn(3, 2);
            x.removeFragment(1);
            x.addFragment('f', 15, 15, 15, 15);
            x.placeGuess(7, 6);
            x.fill();
            x.restore();
            return x;
        });
    }

    private static void promise55StaysSaved() {
        Supplier<MosaicCatalogue> once = () -> {
            MosaicCatalogue x = Examples.rich();
            x.restore();
            return x;
        };
        Twins restored = new Twins(CHECKS, once);
        restored.answers("restore again", 7, x -> x.restore());
        restored.same("changes and restore", () -> {
            MosaicCatalogue x = once.get();
            x.removeFragment(6);
            x.takeBack(0);
            x.restore();
            return x;
        });
        restored.same("changes, undo and restore", () -> {
            MosaicCatalogue x = once.get();
            x.addFragment('f', 0, 0, 0, 0);
            x.setTurn(0, 2);
            x.undo();
            x.restore();
            return x;
        });
    }

    private static void promise55NoChangeCanBeUndoneAfterwards() {
        MosaicCatalogue x = Examples.rich();
        x.restore();
        CHECKS.equal("none", Checks.outcome(x::undo), "IllegalStateException");
        for (int changes = 1; changes <= 10; changes++) {
            x.setTurn(0, changes % 4);
            CHECKS.equal("later changes", x.undoCount(), Math.min(changes, 8));
        }
        for (int left = 7; left >= 0; left--) {
            CHECKS.equal("left", x.undo(), left);
        }
        CHECKS.equal("no more than these", Checks.outcome(x::undo), "IllegalStateException");
        CHECKS.equal("the turn before them", x.turn(0), 2);
    }

    private static void promise55TheNextIdAndTheRoom() {
        MosaicCatalogue x = Examples.checkered(19);
        x.save();
        CHECKS.equal("the twentieth", x.addFragment('a', 0, 0, 0, 0), 19);
        CHECKS.equal("full", Checks.outcome(() -> x.addFragment('a', 0, 0, 0, 0)), "IllegalStateException");
        x.restore();
        CHECKS.equal("the twentieth again", x.addFragment('b', 15, 15, 15, 15), 19);
        CHECKS.equal("its colour", x.colour(19), 'b');
        CHECKS.equal("full again", Checks.outcome(() -> x.addFragment('a', 0, 0, 0, 0)), "IllegalStateException");
    }

    private static void promise55LeavesTheInputAndWhatWasKept() {
        MosaicCatalogue x = fewChanges();
        x.restore();
        CHECKS.equal("output", Checks.output(x), "a+......");
        CHECKS.equal("error position", x.errorPosition(), 5);
        CHECKS.equal("failed command", x.failedCommand(), 1);
        CHECKS.equal("input", x.feed('l'), 4);
        CHECKS.equal("the text", x.execute(), 1);
        MosaicCatalogue y = new MosaicCatalogue();
        y.save();
        y.writeRow(0);
        Checks.execute(y, "%");
        y.restore();
        CHECKS.equal("an output is no part of it", Checks.output(y), "........");
        CHECKS.equal("an error position is none", y.errorPosition(), 0);
        CHECKS.equal("no failed command", Checks.outcome(y::failedCommand),
                NoSuchElementException.class.getSimpleName());
    }
}
