import java.util.NoSuchElementException;

/** Promises 14 to 19: placing. */
public final class PlacingTest {
    private static final Checks CHECKS = new Checks();
    private static final int[] NO_IDS = {-1, 9, Integer.MIN_VALUE, Integer.MAX_VALUE};
    private static final int[] NO_LINES = {-1, 8, Integer.MIN_VALUE, Integer.MAX_VALUE};

    public static void main(String[] arguments) {
        promise14Place();
        promise14WrongArguments();
        promise15TakeBack();
        promise16SetTurn();
        promise17Swap();
        promise17WrongArguments();
        promise18PlaceGuess();
        promise18WrongArguments();
        promise19FillChoosesGap();
        promise19FillAroundCellZero();
        promise19FillLeavesTakenCells();
        promise19FillEnds();
        promise19FillTheTray();
        CHECKS.finish("PlacingTest");
    }

    /** Nine fragments that fit one another: the even ones have only 0, the odd ones only 15. */
    private static MosaicCatalogue example() {
        MosaicCatalogue x = new MosaicCatalogue();
        for (int id = 0; id < 9; id++) {
            int pattern = id % 2 * 15;
            x.addFragment((char) ('a' + id % 6), pattern, pattern, pattern, pattern);
        }
        return x;
    }

    private static void promise14Place() {
        MosaicCatalogue x = example();
        x.setTurn(0, 3);
        CHECKS.equal("without neighbours", x.place(0, 3, 3), 0);
        CHECKS.equal("its turn stays", x.turn(0), 3);
        CHECKS.equal("its cell", x.cell(0), 27);
        CHECKS.equal("a clash is no join", x.place(2, 3, 5), 0);
        CHECKS.equal("a join at two sides", x.place(1, 3, 4), 2);
        CHECKS.equal("corners do not meet", x.place(3, 4, 5), 1);
        CHECKS.equal("two joins", x.place(4, 4, 4), 2);
        CHECKS.equal("three cells around", x.place(6, 2, 4), 1);
        x.takeBack(1);
        CHECKS.equal("four joins", x.place(1, 3, 4), 4);
        CHECKS.equal("the corner 63", x.place(5, 7, 7), 0);
        CHECKS.equal("the corner 0", x.place(7, 0, 0), 0);
        CHECKS.equal("a border is no neighbour of the next row", x.place(8, 1, 7), 0);
    }

    private static void promise14WrongArguments() {
        MosaicCatalogue x = example();
        x.place(0, 0, 0);
        for (int id : NO_IDS) {
            CHECKS.fails("place " + id, NoSuchElementException.class, x, () -> x.place(id, 1, 1));
            CHECKS.fails("place outside " + id, NoSuchElementException.class, x, () -> x.place(id, 8, 8));
        }
        for (int line : NO_LINES) {
            CHECKS.fails("row " + line, IndexOutOfBoundsException.class, x, () -> x.place(1, line, 0));
            CHECKS.fails("column " + line, IndexOutOfBoundsException.class, x, () -> x.place(1, 0, line));
            CHECKS.fails("placed, row " + line, IndexOutOfBoundsException.class, x, () -> x.place(0, line, 0));
        }
        CHECKS.fails("a placed one", IllegalStateException.class, x, () -> x.place(0, 1, 1));
        CHECKS.fails("a cell that is taken", IllegalStateException.class, x, () -> x.place(1, 0, 0));
        CHECKS.fails("where it is", IllegalStateException.class, x, () -> x.place(0, 0, 0));
    }

    private static void promise15TakeBack() {
        MosaicCatalogue x = example();
        x.setTurn(1, 2);
        x.place(0, 3, 3);
        x.place(1, 3, 4);
        x.place(3, 2, 3);
        x.place(2, 4, 3);
        CHECKS.equal("two joins and a clash", x.takeBack(0), 2);
        CHECKS.equal("the cell is empty", x.isEmpty(3, 3), true);
        CHECKS.equal("it is in the tray", x.inTray(0), 0);
        CHECKS.equal("no joins", x.takeBack(1), 0);
        CHECKS.equal("its turn stays", x.turn(1), 2);
        CHECKS.fails("one of the tray", IllegalStateException.class, x, () -> x.takeBack(1));
        for (int id : NO_IDS) {
            CHECKS.fails("takeBack " + id, NoSuchElementException.class, x, () -> x.takeBack(id));
        }
        CHECKS.equal("the cell can be taken again", x.place(1, 3, 3), 1);
    }

    private static void promise16SetTurn() {
        MosaicCatalogue x = new MosaicCatalogue();
        x.addFragment('a', 1, 2, 3, 4);
        x.addFragment('b', 14, 0, 0, 0);
        CHECKS.equal("in the tray", x.setTurn(0, 2), 0);
        CHECKS.equal("again", x.setTurn(0, 1), 2);
        x.place(0, 4, 4);
        x.place(1, 5, 4);
        CHECKS.equal("no join yet", x.joinCount(), 0);
        CHECKS.equal("placed", x.setTurn(0, 2), 1);
        CHECKS.equal("a join by turning", x.joinCount(), 1);
        CHECKS.equal("the same turn", x.setTurn(0, 2), 2);
        for (int turn : new int[] {-1, 4, Integer.MIN_VALUE, Integer.MAX_VALUE}) {
            CHECKS.fails("turn " + turn, IllegalArgumentException.class, x, () -> x.setTurn(0, turn));
            CHECKS.fails("none, turn " + turn, NoSuchElementException.class, x, () -> x.setTurn(2, turn));
        }
        for (int id : NO_IDS) {
            CHECKS.fails("setTurn " + id, NoSuchElementException.class, x, () -> x.setTurn(id, 0));
        }
    }

    private static void promise17Swap() {
        MosaicCatalogue x = new MosaicCatalogue();
        x.addFragment('a', 0, 5, 0, 0);
        x.addFragment('b', 0, 0, 0, 10);
        x.addFragment('c', 0, 0, 0, 1);
        x.setTurn(2, 1);
        x.place(0, 1, 1);
        x.place(2, 1, 2);
        x.place(1, 6, 6);
        CHECKS.equal("joins afterwards", x.swap(1, 2), 1);
        CHECKS.equal("the cell of the one", x.cell(1), 10);
        CHECKS.equal("the cell of the other", x.cell(2), 54);
        CHECKS.equal("on the grid", x.fragmentAt(6, 6), 2);
        CHECKS.equal("and there", x.fragmentAt(1, 2), 1);
        CHECKS.equal("turns stay", x.turn(2), 1);
        CHECKS.equal("turns stay here", x.turn(1), 0);
        CHECKS.equal("neighbours", x.swap(0, 1), 0);
        CHECKS.equal("back again", x.swap(0, 1), 1);
        CHECKS.equal("joins elsewhere count", x.swap(0, 2), 0);
    }

    private static void promise17WrongArguments() {
        MosaicCatalogue x = example();
        x.place(0, 0, 0);
        x.place(1, 0, 1);
        for (int id : NO_IDS) {
            CHECKS.fails("first " + id, NoSuchElementException.class, x, () -> x.swap(id, 0));
            CHECKS.fails("second " + id, NoSuchElementException.class, x, () -> x.swap(0, id));
            CHECKS.fails("second, first in the tray " + id, NoSuchElementException.class, x, () -> x.swap(2, id));
            CHECKS.fails("both " + id, NoSuchElementException.class, x, () -> x.swap(id, id));
        }
        CHECKS.fails("the same", IllegalArgumentException.class, x, () -> x.swap(0, 0));
        CHECKS.fails("the same in the tray", IllegalArgumentException.class, x, () -> x.swap(2, 2));
        CHECKS.fails("first in the tray", IllegalStateException.class, x, () -> x.swap(2, 0));
        CHECKS.fails("second in the tray", IllegalStateException.class, x, () -> x.swap(0, 2));
        CHECKS.fails("both in the tray", IllegalStateException.class, x, () -> x.swap(2, 3));
    }

    private static void promise18PlaceGuess() {
        MosaicCatalogue x = new MosaicCatalogue();
        x.addFragment('a', 1, 1, 1, 1);
        x.addFragment('b', 14, 0, 0, 0);
        x.addFragment('b', 0, 0, 14, 14);
        x.setTurn(2, 3);
        x.place(0, 3, 3);
        CHECKS.equal("the smaller id", x.placeGuess(3, 4), 1);
        CHECKS.equal("its best turn", x.turn(1), 3);
        CHECKS.equal("its cell", x.cell(1), 28);
        CHECKS.equal("the next", x.placeGuess(2, 3), 2);
        CHECKS.equal("the smallest of several turns", x.turn(2), 0);
        CHECKS.equal("a change each", x.undoCount(), 7);
        x.addFragment('c', 1, 1, 1, 1);
        CHECKS.equal("a weight below 0 will do", x.placeGuess(3, 2), 3);
    }

    private static void promise18WrongArguments() {
        MosaicCatalogue x = example();
        x.place(0, 3, 3);
        for (int line : NO_LINES) {
            CHECKS.fails("row " + line, IndexOutOfBoundsException.class, x, () -> x.placeGuess(line, 3));
            CHECKS.fails("column " + line, IndexOutOfBoundsException.class, x, () -> x.placeGuess(3, line));
        }
        CHECKS.fails("a taken cell", UnsupportedOperationException.class, x, () -> x.placeGuess(3, 3));
        CHECKS.fails("far away", UnsupportedOperationException.class, x, () -> x.placeGuess(4, 4));
        MosaicCatalogue y = new MosaicCatalogue();
        y.addFragment('a', 0, 0, 0, 0);
        CHECKS.fails("an empty grid", UnsupportedOperationException.class, y, () -> y.placeGuess(0, 0));
        y.place(0, 0, 0);
        CHECKS.fails("an empty tray", NoSuchElementException.class, y, () -> y.placeGuess(0, 1));
        CHECKS.fails("no gap, empty tray", UnsupportedOperationException.class, y, () -> y.placeGuess(5, 5));
        CHECKS.fails("outside, empty tray", IndexOutOfBoundsException.class, y, () -> y.placeGuess(8, 0));
    }

    /** The gap with the greatest weight is first, and of several the one with the smallest number. */
    private static void promise19FillChoosesGap() {
        MosaicCatalogue x = new MosaicCatalogue();
        x.addFragment('a', 1, 2, 4, 8);
        x.addFragment('b', 3, 3, 3, 3);
        x.addFragment('b', 14, 1, 1, 1);
        x.addFragment('c', 12, 3, 3, 3);
        x.addFragment('c', 7, 7, 7, 7);
        x.place(0, 4, 4);
        x.place(1, 0, 2);
        CHECKS.equal("fill", x.fill(), 3);
        CHECKS.equal("below the northern edge 1 of fragment 0", x.cell(2), 28);
        CHECKS.equal("its turn", x.turn(2), 2);
        CHECKS.equal("the smallest cell of three", x.cell(3), 1);
        CHECKS.equal("turned to the east", x.turn(3), 1);
        CHECKS.equal("fits the edge 8 in the west", x.cell(4), 35);
        CHECKS.equal("all its turns are alike", x.turn(4), 0);
        CHECKS.equal("nothing is left", x.fill(), 0);
        CHECKS.equal("a fill of none is a change", x.undoCount(), 8);
    }

    private static void promise19FillAroundCellZero() {
        MosaicCatalogue x = new MosaicCatalogue();
        x.addFragment('a', 15, 15, 15, 15);
        x.addFragment('b', 0, 0, 0, 0);
        x.place(1, 0, 1);
        CHECKS.equal("fragment 0 is placed", x.fill(), 1);
        CHECKS.equal("on cell 0", x.cell(0), 0);
    }

    /** The cell 1 would have the greatest weight, but it is taken. */
    private static void promise19FillLeavesTakenCells() {
        MosaicCatalogue x = new MosaicCatalogue();
        x.addFragment('a', 15, 15, 15, 15);
        x.addFragment('a', 15, 15, 15, 15);
        x.addFragment('b', 3, 3, 3, 3);
        x.addFragment('c', 0, 0, 0, 0);
        x.place(0, 0, 0);
        x.place(1, 0, 2);
        x.place(2, 0, 1);
        CHECKS.equal("one is placed", x.fill(), 1);
        CHECKS.equal("beside it", x.cell(3), 3);
        CHECKS.equal("2 keeps its cell", x.fragmentAt(0, 1), 2);
    }

    private static void promise19FillEnds() {
        MosaicCatalogue x = new MosaicCatalogue();
        CHECKS.equal("an empty catalogue", x.fill(), 0);
        x.addFragment('a', 1, 1, 1, 1);
        CHECKS.equal("an empty grid", x.fill(), 0);
        x.addFragment('b', 1, 1, 1, 1);
        x.addFragment('a', 1, 1, 1, 1);
        x.place(0, 0, 0);
        CHECKS.equal("weights below 0", x.fill(), 0);
        CHECKS.equal("nothing moved", x.placedMask(), 1L);
        CHECKS.equal("changes all the same", x.undoCount(), 7);
        MosaicCatalogue y = new MosaicCatalogue();
        y.addFragment('a', 1, 1, 1, 0);
        y.addFragment('a', 1, 1, 1, 0);
        y.addFragment('a', 14, 0, 0, 0);
        y.place(0, 0, 0);
        y.place(1, 0, 2);
        y.place(2, 1, 1);
        y.addFragment('c', 14, 2, 2, 2);
        y.addFragment('d', 14, 2, 14, 2);
        CHECKS.equal("4 - 3 is above 0", y.weight(3, 1, 0, 0), 1);
        CHECKS.equal("both find a place", y.fill(), 2);
    }

    private static void promise19FillTheTray() {
        MosaicCatalogue x = new MosaicCatalogue();
        for (int id = 0; id < 20; id++) {
            int pattern = id % 2 * 15;
            x.addFragment('e', pattern, pattern, pattern, pattern);
        }
        x.place(0, 4, 4);
        CHECKS.equal("a whole tray", x.fill(), 19);
        CHECKS.equal("no clashes", x.clashCount(), 0);
        CHECKS.equal("one group", x.groupCount(), 1);
        CHECKS.equal("the tray is empty", x.trayCount(), 0);
        CHECKS.equal("an empty tray", x.fill(), 0);
        x.undo();
        CHECKS.equal("one change for all of it", x.undo(), 6);
        CHECKS.equal("all are back", x.trayCount(), 19);
    }
}
