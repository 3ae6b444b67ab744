import java.util.NoSuchElementException;

/** Promises 32 to 35: guesses. */
public final class GuessesTest {
    private static final Checks CHECKS = new Checks();
    private static final int[] NO_IDS = {-1, 8, Integer.MIN_VALUE, Integer.MAX_VALUE};
    private static final int[] NO_LINES = {-1, 8, Integer.MIN_VALUE, Integer.MAX_VALUE};
    private static final int[] NO_TURNS = {-1, 4, Integer.MIN_VALUE, Integer.MAX_VALUE};

    public static void main(String[] arguments) {
        promise32Weight();
        promise32WrongArguments();
        promise33BestTurn();
        promise33WrongArguments();
        promise34BestGuess();
        promise35GuessByWeight();
        promises34And35WrongArguments();
        CHECKS.finish("GuessesTest");
    }

    /** The gap at row 4 and column 4 has the outline 1, 2, 4, 8 from north to west, with colours a, a, b, c. */
    private static MosaicCatalogue example() {
        MosaicCatalogue x = new MosaicCatalogue();
        x.addFragment('a', 0, 0, 1, 0);
        x.addFragment('a', 0, 0, 0, 2);
        x.addFragment('b', 4, 0, 0, 0);
        x.addFragment('c', 0, 8, 0, 0);
        x.place(0, 3, 4);
        x.place(1, 4, 5);
        x.place(2, 5, 4);
        x.place(3, 4, 3);
        x.addFragment('d', 14, 13, 11, 7);
        x.addFragment('a', 13, 11, 7, 14);
        x.addFragment('c', 7, 7, 7, 7);
        x.addFragment('b', 0, 11, 0, 0);
        return x;
    }

    private static void promise32Weight() {
        MosaicCatalogue x = example();
        CHECKS.equal("all four fit", x.weight(4, 4, 4, 0), 16);
        for (int turn = 1; turn < 4; turn++) {
            CHECKS.equal("none fits with turn " + turn, x.weight(4, 4, 4, turn), -12);
        }
        CHECKS.equal("two of the same colour", x.weight(5, 4, 4, 1), 18);
        CHECKS.equal("none fits, two of the same colour", x.weight(5, 4, 4, 0), -10);
        CHECKS.equal("one fits with each turn", x.weight(6, 4, 4, 2), 4 - 9 + 1);
        CHECKS.equal("turned to the south", x.weight(7, 4, 4, 1), 4 - 9 + 1);
        CHECKS.equal("not turned", x.weight(7, 4, 4, 0), -12 + 1);
        x.setTurn(4, 2);
        CHECKS.equal("its own turn does not matter", x.weight(4, 4, 4, 0), 16);
        CHECKS.equal("an outline of one", x.weight(5, 2, 4, 0), -3 + 1);
        CHECKS.equal("an outline of two", x.weight(5, 3, 5, 0), -6 + 2);
    }

    private static void promise32WrongArguments() {
        MosaicCatalogue x = example();
        for (int id : NO_IDS) {
            CHECKS.fails("weight " + id, NoSuchElementException.class, x, () -> x.weight(id, 4, 4, 0));
            CHECKS.fails("all wrong " + id, NoSuchElementException.class, x, () -> x.weight(id, 8, 8, 4));
        }
        for (int line : NO_LINES) {
            CHECKS.fails("row", IndexOutOfBoundsException.class, x, () -> x.weight(4, line, 4, 0));
            CHECKS.fails("column", IndexOutOfBoundsException.class, x, () -> x.weight(4, 4, line, 0));
            CHECKS.fails("row and turn", IndexOutOfBoundsException.class, x, () -> x.weight(0, line, 4, 4));
        }
        for (int turn : NO_TURNS) {
            CHECKS.fails("turn", IllegalArgumentException.class, x, () -> x.weight(4, 4, 4, turn));
            CHECKS.fails("turn, placed", IllegalArgumentException.class, x, () -> x.weight(0, 4, 4, turn));
            CHECKS.fails("turn, no gap", IllegalArgumentException.class, x, () -> x.weight(4, 0, 0, turn));
        }
        CHECKS.fails("placed", IllegalStateException.class, x, () -> x.weight(0, 4, 4, 0));
        CHECKS.fails("placed, no gap", IllegalStateException.class, x, () -> x.weight(0, 0, 0, 0));
        CHECKS.fails("no gap", UnsupportedOperationException.class, x, () -> x.weight(4, 0, 0, 0));
        CHECKS.fails("taken", UnsupportedOperationException.class, x, () -> x.weight(4, 4, 5, 0));
    }

    private static void promise33BestTurn() {
        MosaicCatalogue x = example();
        CHECKS.equal("turn 0", x.bestTurn(4, 4, 4), 0);
        CHECKS.equal("turn 1", x.bestTurn(5, 4, 4), 1);
        CHECKS.equal("the smallest of four", x.bestTurn(6, 4, 4), 0);
        CHECKS.equal("the south", x.bestTurn(7, 4, 4), 1);
        x.setTurn(4, 3);
        CHECKS.equal("its own turn does not matter", x.bestTurn(4, 4, 4), 0);
        x.addFragment('e', 13, 7, 0, 13);
        CHECKS.equal("the greatest of the later ones", x.bestTurn(8, 4, 4), 2);
        x.addFragment('e', 7, 0, 0, 0);
        CHECKS.equal("turn 3", x.bestTurn(9, 4, 4), 3);
        x.addFragment('e', 13, 7, 0, 14);
        CHECKS.equal("between a smaller and a greater one", x.bestTurn(10, 4, 4), 1);
    }

    private static void promise33WrongArguments() {
        MosaicCatalogue x = example();
        for (int id : NO_IDS) {
            CHECKS.fails("bestTurn " + id, NoSuchElementException.class, x, () -> x.bestTurn(id, 4, 4));
            CHECKS.fails("outside " + id, NoSuchElementException.class, x, () -> x.bestTurn(id, 8, 4));
        }
        for (int line : NO_LINES) {
            CHECKS.fails("row", IndexOutOfBoundsException.class, x, () -> x.bestTurn(4, line, 4));
            CHECKS.fails("column", IndexOutOfBoundsException.class, x, () -> x.bestTurn(4, 4, line));
            CHECKS.fails("row, placed", IndexOutOfBoundsException.class, x, () -> x.bestTurn(0, line, 4));
        }
        CHECKS.fails("placed", IllegalStateException.class, x, () -> x.bestTurn(0, 4, 4));
        CHECKS.fails("placed, no gap", IllegalStateException.class, x, () -> x.bestTurn(0, 0, 0));
        CHECKS.fails("no gap", UnsupportedOperationException.class, x, () -> x.bestTurn(4, 0, 0));
        CHECKS.fails("taken", UnsupportedOperationException.class, x, () -> x.bestTurn(4, 4, 5));
    }

    private static void promise34BestGuess() {
        MosaicCatalogue x = example();
        CHECKS.equal("the greatest weight", x.bestGuess(4, 4), 5);
        x.removeFragment(5);
        CHECKS.equal("the next", x.bestGuess(4, 4), 4);
        x.removeFragment(4);
        CHECKS.equal("the smallest id of two", x.bestGuess(4, 4), 6);
        x.removeFragment(6);
        CHECKS.equal("a weight below 0", x.bestGuess(4, 4), 7);
        x.takeBack(0);
        CHECKS.equal("one that was taken back", x.bestGuess(4, 4), 7);
        CHECKS.equal("it changes nothing", x.isPlaced(7), false);
        CHECKS.equal("not its turn", x.turn(7), 0);
    }

    private static void promise35GuessByWeight() {
        MosaicCatalogue x = example();
        int[] due = {5, 4, 6, 7};
        for (int rank = 0; rank < 4; rank++) {
            CHECKS.equal("rank " + rank, x.guessByWeight(4, 4, rank), due[rank]);
        }
        x.takeBack(3);
        int[] later = {5, 4, 7, 3, 6};
        for (int rank = 0; rank < 5; rank++) {
            CHECKS.equal("rank " + rank + " without a side", x.guessByWeight(4, 4, rank), later[rank]);
        }
        CHECKS.fails("no rank 5", NoSuchElementException.class, x, () -> x.guessByWeight(4, 4, 5));
        MosaicCatalogue y = new MosaicCatalogue();
        y.addFragment('a', 15, 15, 15, 15);
        y.addFragment('b', 0, 0, 0, 0);
        y.addFragment('c', 1, 1, 1, 1);
        y.place(1, 0, 0);
        CHECKS.equal("fragment 0 is first", y.guessByWeight(0, 1, 0), 0);
        CHECKS.equal("the one behind it", y.guessByWeight(0, 1, 1), 2);
    }

    private static void promises34And35WrongArguments() {
        MosaicCatalogue x = example();
        for (int line : NO_LINES) {
            CHECKS.fails("row", IndexOutOfBoundsException.class, x, () -> x.bestGuess(line, 4));
            CHECKS.fails("column", IndexOutOfBoundsException.class, x, () -> x.bestGuess(4, line));
            CHECKS.fails("row, rank", IndexOutOfBoundsException.class, x, () -> x.guessByWeight(line, 4, -1));
            CHECKS.fails("column, rank", IndexOutOfBoundsException.class, x, () -> x.guessByWeight(4, line, 0));
        }
        for (int rank : new int[] {-1, 4, Integer.MIN_VALUE, Integer.MAX_VALUE}) {
            CHECKS.fails("rank " + rank, NoSuchElementException.class, x, () -> x.guessByWeight(4, 4, rank));
            CHECKS.fails("taken, " + rank, UnsupportedOperationException.class, x,
                    () -> x.guessByWeight(4, 5, rank));
        }
        CHECKS.fails("no gap", UnsupportedOperationException.class, x, () -> x.bestGuess(0, 0));
        CHECKS.fails("taken", UnsupportedOperationException.class, x, () -> x.bestGuess(4, 5));
        for (int id = 4; id < 8; id++) {
            x.removeFragment(id);
        }
        CHECKS.fails("an empty tray", NoSuchElementException.class, x, () -> x.bestGuess(4, 4));
        CHECKS.fails("no rank 0", NoSuchElementException.class, x, () -> x.guessByWeight(4, 4, 0));
        CHECKS.fails("empty tray, no gap", UnsupportedOperationException.class, x, () -> x.bestGuess(0, 0));
    }
}
