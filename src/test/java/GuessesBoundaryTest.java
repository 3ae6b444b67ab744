import java.util.NoSuchElementException;

/** Promises 32 to 35: a test for each sentence that names a boundary case. */
public final class GuessesBoundaryTest {
    private static final Checks CHECKS = new Checks();
    private static final Twins FRESH = new Twins(CHECKS, Examples::fresh);
    private static final Twins RICH = new Twins(CHECKS, Examples::rich);
    private static final Twins FULL_TRAY = new Twins(CHECKS, Examples::fullTray);
    private static final Twins ALL_PLACED = new Twins(CHECKS, Examples::allPlaced);
    private static final Twins NINETEEN = new Twins(CHECKS, GuessesBoundaryTest::nineteenGuesses);
    // In Examples.rich: 5 was removed, 7 is the id that is given next; the cell at 2, 3 is a gap.
    private static final int[] NO_IDS = {-1, 5, 7, 8, 20, 64, Integer.MIN_VALUE, Integer.MAX_VALUE, 1 << 16};
    private static final int[] AROUND_27 = {19, 28, 35, 26};

    public static void main(String[] arguments) throws IllegalAccessException {
        CHECKS.runPromises(GuessesBoundaryTest.class);
    }

    /** Fragment 0 on the last cell, and 19 in the tray, the even ids of which do not fit beside it. */
    private static MosaicCatalogue nineteenGuesses() {
        MosaicCatalogue x = Examples.fullTray();
        x.place(0, 7, 7);
        return x;
    }

    private static MosaicCatalogue fourAround27(char colour, int pattern) {
        MosaicCatalogue x = new MosaicCatalogue();
        for (int cell : AROUND_27) {
            x.place(x.addFragment(colour, pattern, pattern, pattern, pattern), cell / 8, cell % 8);
        }
        return x;
    }

    private static void promise32NoSuchFragment() {
        for (int id : NO_IDS) {
            RICH.refuses("weight of " + id, NoSuchElementException.class, x -> x.weight(id, 2, 3, 0));
        }
        FRESH.refuses("weight of 0", NoSuchElementException.class, x -> x.weight(0, 0, 0, 0));
    }

    private static void promise32RowIsNotFrom0To7() {
        for (int row : Examples.NO_LINES) {
            RICH.refuses("row " + row, IndexOutOfBoundsException.class, x -> x.weight(2, row, 3, 0));
        }
    }

    private static void promise32ColumnIsNotFrom0To7() {
        for (int column : Examples.NO_LINES) {
            RICH.refuses("column " + column, IndexOutOfBoundsException.class, x -> x.weight(2, 2, column, 0));
        }
    }

    private static void promise32TurnIsNotFrom0To3() {
        for (int turn : Examples.NO_QUARTERS) {
            RICH.refuses("turn " + turn, IllegalArgumentException.class, x -> x.weight(2, 2, 3, turn));
        }
    }

    private static void promise32TheFragmentIsPlaced() {
        RICH.refuses("0", IllegalStateException.class, x -> x.weight(0, 2, 3, 0));
        RICH.refuses("4", IllegalStateException.class, x -> x.weight(4, 2, 3, 3));
        ALL_PLACED.refuses("19", IllegalStateException.class, x -> x.weight(19, 5, 0, 0));
    }

    private static void promise32TheCellIsNotAGap() {
        RICH.refuses("a fragment is there", UnsupportedOperationException.class, x -> x.weight(2, 3, 3, 0));
        RICH.refuses("no neighbour", UnsupportedOperationException.class, x -> x.weight(2, 0, 0, 0));
        RICH.refuses("only a corner meets", UnsupportedOperationException.class, x -> x.weight(2, 6, 6, 0));
        FULL_TRAY.refuses("an empty grid", UnsupportedOperationException.class, x -> x.weight(0, 0, 0, 0));
    }

    private static void promise32WhichExceptionDecides() {
        RICH.refuses("no fragment, no row", NoSuchElementException.class, x -> x.weight(7, 8, 3, 0));
        RICH.refuses("no fragment, no turn", NoSuchElementException.class, x -> x.weight(7, 2, 3, 4));
        RICH.refuses("no fragment, no gap", NoSuchElementException.class, x -> x.weight(7, 0, 0, 0));
        RICH.refuses("no row, no turn", IndexOutOfBoundsException.class, x -> x.weight(2, -1, 3, -1));
        RICH.refuses("no column, placed", IndexOutOfBoundsException.class, x -> x.weight(0, 2, 8, 0));
        RICH.refuses("no row, no turn, placed", IndexOutOfBoundsException.class, x -> x.weight(0, 8, 8, 4));
        RICH.refuses("no turn, placed", IllegalArgumentException.class, x -> x.weight(0, 2, 3, 4));
        RICH.refuses("no turn, no gap", IllegalArgumentException.class, x -> x.weight(2, 0, 0, -1));
        RICH.refuses("placed, no gap", IllegalStateException.class, x -> x.weight(0, 0, 0, 0));
    }

    private static void promise32TheGreatestWeight() {
        MosaicCatalogue x = fourAround27('a', 0);
        x.addFragment('a', 15, 15, 15, 15);
        CHECKS.equal("four fit, four of the same colour", x.weight(4, 3, 3, 0), 20);
    }

    private static void promise32TheLeastWeight() {
        MosaicCatalogue x = fourAround27('a', 0);
        x.addFragment('b', 0, 0, 0, 0);
        CHECKS.equal("none fits, no colour", x.weight(4, 3, 3, 3), -12);
    }

    /** 4 for each edge that fits, less 3 for each that does not, for 0 to 4 that fit and 0 to 4 of the same colour. */
    private static void promise32EachWeightOfFourEdges() {
        for (int fitting = 0; fitting <= 4; fitting++) {
            for (int alike = 0; alike <= 4; alike++) {
                MosaicCatalogue x = new MosaicCatalogue();
                for (int side = 0; side < 4; side++) {
                    int pattern = side < fitting ? 5 : 6;
                    char colour = side < alike ? 'e' : 'f';
                    int id = x.addFragment(colour, pattern, pattern, pattern, pattern);
                    x.place(id, AROUND_27[side] / 8, AROUND_27[side] % 8);
                }
                x.addFragment('e', 10, 10, 10, 10);
                CHECKS.equal(fitting + " fit, " + alike + " alike", x.weight(4, 3, 3, 2),
                        4 * fitting - 3 * (4 - fitting) + alike);
            }
        }
    }

    private static void promise32EachTurnFrom0To3WrapsAround() {
        MosaicCatalogue x = new MosaicCatalogue();
        x.place(x.addFragment('a', 0, 0, 1, 0), 2, 3);
        x.addFragment('b', 14, 2, 3, 4);
        x.addFragment('b', 2, 14, 3, 4);
        x.addFragment('b', 2, 3, 14, 4);
        x.addFragment('b', 2, 3, 4, 14);
        for (int number = 0; number < 4; number++) {
            for (int turn = 0; turn <= 3; turn++) {
                boolean fits = (number + turn) % 4 == 0;
                CHECKS.equal("edge " + number + ", turn " + turn, x.weight(1 + number, 3, 3, turn), fits ? 4 : -3);
            }
        }
    }

    private static void promise32AtTheCornersAndBorders() {
        MosaicCatalogue x = Examples.alike(0, 0, 0, 0, 1, 8, 55, 62);
        x.addFragment('b', 15, 15, 15, 15);
        CHECKS.equal("the first corner", x.weight(4, 0, 0, 0), 8);
        CHECKS.equal("the last corner", x.weight(4, 7, 7, 0), 8);
        CHECKS.equal("beside it", x.weight(4, 0, 2, 0), 4);
        CHECKS.equal("the last column", x.weight(4, 5, 7, 0), 4);
    }

    private static void promise33NoSuchFragment() {
        for (int id : NO_IDS) {
            RICH.refuses("bestTurn of " + id, NoSuchElementException.class, x -> x.bestTurn(id, 2, 3));
        }
        FRESH.refuses("bestTurn of 0", NoSuchElementException.class, x -> x.bestTurn(0, 0, 0));
    }

    private static void promise33RowIsNotFrom0To7() {
        for (int row : Examples.NO_LINES) {
            RICH.refuses("row " + row, IndexOutOfBoundsException.class, x -> x.bestTurn(2, row, 3));
        }
    }

    private static void promise33ColumnIsNotFrom0To7() {
        for (int column : Examples.NO_LINES) {
            RICH.refuses("column " + column, IndexOutOfBoundsException.class, x -> x.bestTurn(2, 2, column));
        }
    }

    private static void promise33TheFragmentIsPlaced() {
        RICH.refuses("0", IllegalStateException.class, x -> x.bestTurn(0, 2, 3));
        ALL_PLACED.refuses("19", IllegalStateException.class, x -> x.bestTurn(19, 5, 0));
    }

    private static void promise33TheCellIsNotAGap() {
        RICH.refuses("a fragment is there", UnsupportedOperationException.class, x -> x.bestTurn(2, 3, 3));
        RICH.refuses("no neighbour", UnsupportedOperationException.class, x -> x.bestTurn(2, 0, 0));
        FULL_TRAY.refuses("an empty grid", UnsupportedOperationException.class, x -> x.bestTurn(19, 7, 7));
    }

    private static void promise33WhichExceptionDecides() {
        RICH.refuses("no fragment, no row", NoSuchElementException.class, x -> x.bestTurn(7, 8, 3));
        RICH.refuses("no fragment, no gap", NoSuchElementException.class, x -> x.bestTurn(5, 0, 0));
        RICH.refuses("no row, placed", IndexOutOfBoundsException.class, x -> x.bestTurn(0, -1, 3));
        RICH.refuses("no column, placed", IndexOutOfBoundsException.class, x -> x.bestTurn(0, 2, 8));
        RICH.refuses("placed, no gap", IllegalStateException.class, x -> x.bestTurn(0, 0, 0));
    }

    private static void promise33EachTurnFrom0To3() {
        for (int turn = 0; turn <= 3; turn++) {
            MosaicCatalogue x = Examples.alike(0, 1, 0, 0, 0);
            int[] edges = {3, 3, 3, 3};
            edges[(3 - turn + 4) % 4] = 14;
            x.addFragment('b', edges[0], edges[1], edges[2], edges[3]);
            CHECKS.equal("turn " + turn, x.bestTurn(1, 0, 1), turn);
        }
    }

    private static void promise33TheSmallestOfSeveral() {
        MosaicCatalogue x = Examples.alike(0, 1, 0, 0, 0);
        x.addFragment('b', 3, 3, 3, 3);
        x.addFragment('b', 14, 14, 14, 14);
        x.addFragment('b', 14, 14, 3, 3);
        x.addFragment('b', 14, 3, 14, 3);
        x.setTurn(1, 3);
        x.setTurn(2, 2);
        CHECKS.equal("all below 0", x.bestTurn(1, 0, 1), 0);
        CHECKS.equal("all above 0", x.bestTurn(2, 0, 1), 0);
        CHECKS.equal("2 and 3", x.bestTurn(3, 0, 1), 2);
        CHECKS.equal("1 and 3", x.bestTurn(4, 0, 1), 1);
    }

    private static void promise34RowIsNotFrom0To7() {
        for (int row : Examples.NO_LINES) {
            RICH.refuses("row " + row, IndexOutOfBoundsException.class, x -> x.bestGuess(row, 3));
        }
    }

    private static void promise34ColumnIsNotFrom0To7() {
        for (int column : Examples.NO_LINES) {
            RICH.refuses("column " + column, IndexOutOfBoundsException.class, x -> x.bestGuess(2, column));
        }
    }

    private static void promise34TheCellIsNotAGap() {
        RICH.refuses("a fragment is there", UnsupportedOperationException.class, x -> x.bestGuess(3, 3));
        RICH.refuses("no neighbour", UnsupportedOperationException.class, x -> x.bestGuess(0, 0));
        FULL_TRAY.refuses("an empty grid", UnsupportedOperationException.class, x -> x.bestGuess(0, 0));
        FRESH.refuses("a new object", UnsupportedOperationException.class, x -> x.bestGuess(0, 0));
    }

    private static void promise34TheTrayIsEmpty() {
        ALL_PLACED.refuses("twenty are placed", NoSuchElementException.class, x -> x.bestGuess(5, 0));
    }

    private static void promise34WhichExceptionDecides() {
        ALL_PLACED.refuses("no row, empty tray", IndexOutOfBoundsException.class, x -> x.bestGuess(8, 0));
        ALL_PLACED.refuses("no column, empty tray", IndexOutOfBoundsException.class, x -> x.bestGuess(5, -1));
        ALL_PLACED.refuses("no gap, empty tray", UnsupportedOperationException.class, x -> x.bestGuess(7, 7));
        FRESH.refuses("no row, no gap", IndexOutOfBoundsException.class, x -> x.bestGuess(8, 8));
    }

    private static void promise34OneInTheTray() {
        MosaicCatalogue x = Examples.alike(1, 1, 1, 1, AROUND_27);
        x.addFragment('b', 1, 1, 1, 1);
        CHECKS.equal("the least weight will do", x.bestGuess(3, 3), 4);
    }

    private static void promise34OfSeveralTheSmallestId() {
        NINETEEN.answers("of ten that fit", 1, x -> x.bestGuess(7, 6));
        NINETEEN.answers("of ten that fit, in the north", 1, x -> x.bestGuess(6, 7));
    }

    private static void promise34ItsBestTurnCounts() {
        for (int number = 0; number < 4; number++) {
            MosaicCatalogue x = Examples.alike(0, 1, 0, 0, 0);
            x.addFragment('b', 3, 3, 3, 3);
            int[] edges = {3, 3, 3, 3};
            edges[number] = 14;
            x.addFragment('b', edges[0], edges[1], edges[2], edges[3]);
            x.addFragment('c', 3, 3, 3, 3);
            CHECKS.equal("edge " + number + " fits", x.bestGuess(0, 1), 2);
            CHECKS.equal("edge " + number + " fits: first", x.guessByWeight(0, 1, 0), 2);
            CHECKS.equal("edge " + number + " fits: second", x.guessByWeight(0, 1, 1), 1);
            CHECKS.equal("edge " + number + " fits: third", x.guessByWeight(0, 1, 2), 3);
        }
    }

    /** Fragment 0 is the one that is in the tray, and its weight counts from the first edge to the last. */
    private static void promise34TheFirstFragment() {
        MosaicCatalogue x = Examples.checkered(3);
        x.place(1, 7, 7);
        CHECKS.equal("0 and 2 are alike", x.bestGuess(7, 6), 0);
        CHECKS.equal("the second", x.guessByWeight(7, 6, 1), 2);
        x.undo();
        x.place(0, 7, 7);
        CHECKS.equal("1 is greater", x.bestGuess(7, 6), 1);
        x.undo();
        x.place(2, 7, 7);
        CHECKS.equal("1 is greater than 0", x.bestGuess(7, 6), 1);
        CHECKS.equal("0 is the second", x.guessByWeight(7, 6, 1), 0);
    }

    private static void promise34TheGapOnTheFirstCell() {
        MosaicCatalogue x = Examples.alike(0, 0, 0, 0, 1, 8);
        x.addFragment('b', 15, 0, 0, 0);
        x.addFragment('b', 0, 15, 15, 0);
        CHECKS.equal("two edges fit", x.bestGuess(0, 0), 3);
    }

    private static void promise35RowIsNotFrom0To7() {
        for (int row : Examples.NO_LINES) {
            RICH.refuses("row " + row, IndexOutOfBoundsException.class, x -> x.guessByWeight(row, 3, 0));
        }
    }

    private static void promise35ColumnIsNotFrom0To7() {
        for (int column : Examples.NO_LINES) {
            RICH.refuses("column " + column, IndexOutOfBoundsException.class, x -> x.guessByWeight(2, column, 0));
        }
    }

    private static void promise35TheCellIsNotAGap() {
        RICH.refuses("a fragment is there", UnsupportedOperationException.class, x -> x.guessByWeight(3, 3, 0));
        RICH.refuses("no neighbour", UnsupportedOperationException.class, x -> x.guessByWeight(0, 0, 0));
        FULL_TRAY.refuses("an empty grid", UnsupportedOperationException.class, x -> x.guessByWeight(0, 0, 19));
    }

    private static void promise35NoSuchRank() {
        for (int rank : Examples.FAR_OFF) {
            RICH.refuses("rank " + rank, NoSuchElementException.class, x -> x.guessByWeight(2, 3, rank));
        }
        RICH.refuses("rank 2 of 2", NoSuchElementException.class, x -> x.guessByWeight(2, 3, 2));
        NINETEEN.refuses("rank 19 of 19", NoSuchElementException.class, x -> x.guessByWeight(7, 6, 19));
        NINETEEN.refuses("rank -1 of 19", NoSuchElementException.class, x -> x.guessByWeight(7, 6, -1));
        ALL_PLACED.refuses("rank 0 of none", NoSuchElementException.class, x -> x.guessByWeight(5, 0, 0));
    }

    private static void promise35WhichExceptionDecides() {
        RICH.refuses("no row, no rank", IndexOutOfBoundsException.class, x -> x.guessByWeight(8, 3, -1));
        RICH.refuses("no column, no rank", IndexOutOfBoundsException.class, x -> x.guessByWeight(2, -1, 2));
        RICH.refuses("no gap, no rank", UnsupportedOperationException.class, x -> x.guessByWeight(0, 0, -1));
        FRESH.refuses("no row, no gap, no rank", IndexOutOfBoundsException.class, x -> x.guessByWeight(-1, 0, 0));
    }

    private static void promise35EachRankFrom0To18() {
        int[] due = {1, 3, 5, 7, 9, 11, 13, 15, 17, 19, 6, 12, 18, 2, 4, 8, 10, 14, 16};
        for (int rank = 0; rank < 19; rank++) {
            int there = rank;
            NINETEEN.answers("rank " + rank, due[rank], x -> x.guessByWeight(7, 6, there));
        }
    }

    private static void promise35OfSeveralTheSmallestIdFirst() {
        MosaicCatalogue x = Examples.alike(0, 0, 0, 0, 0);
        for (int id = 1; id < 20; id++) {
            x.addFragment('b', id % 5, id % 5, id % 5, id % 5);
        }
        x.removeFragment(1);
        for (int rank = 0; rank < 18; rank++) {
            CHECKS.equal("rank " + rank, x.guessByWeight(0, 1, rank), rank + 2);
        }
    }
}
