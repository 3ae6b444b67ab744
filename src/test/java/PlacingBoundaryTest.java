import java.util.Arrays;
import java.util.NoSuchElementException;

/** Promises 14 to 19: a test for each sentence that names a boundary case. */
public final class PlacingBoundaryTest {
    private static final Checks CHECKS = new Checks();
    private static final Twins FRESH = new Twins(CHECKS, Examples::fresh);
    private static final Twins RICH = new Twins(CHECKS, Examples::rich);
    private static final Twins FULL_TRAY = new Twins(CHECKS, Examples::fullTray);
    private static final Twins ALL_PLACED = new Twins(CHECKS, Examples::allPlaced);
    // In Examples.rich: 5 was removed, 7 is the id that is given next.
    private static final int[] NO_IDS = {-1, 5, 7, 8, 20, 64, Integer.MIN_VALUE, Integer.MAX_VALUE, 1 << 16};

    public static void main(String[] arguments) throws IllegalAccessException {
        CHECKS.runPromises(PlacingBoundaryTest.class);
    }

    private static void promise14EachCellOfTheGrid() {
        for (int row = 0; row <= 7; row++) {
            for (int column = 0; column <= 7; column++) {
                MosaicCatalogue x = Examples.checkered(1);
                CHECKS.equal("joins", x.place(0, row, column), 0);
                CHECKS.equal("cell", x.cell(0), 8 * row + column);
                CHECKS.equal("mask", x.placedMask(), 1L << 8 * row + column);
            }
        }
    }

    private static void promise14NoSuchFragment() {
        for (int id : NO_IDS) {
            RICH.refuses("place " + id, NoSuchElementException.class, x -> x.place(id, 1, 1));
        }
        FRESH.refuses("place 0 of none", NoSuchElementException.class, x -> x.place(0, 0, 0));
    }

    private static void promise14RowIsNotFrom0To7() {
        for (int row : Examples.NO_LINES) {
            RICH.refuses("row " + row, IndexOutOfBoundsException.class, x -> x.place(2, row, 0));
            RICH.refuses("row " + row + ", column 7", IndexOutOfBoundsException.class, x -> x.place(2, row, 7));
        }
    }

    private static void promise14ColumnIsNotFrom0To7() {
        for (int column : Examples.NO_LINES) {
            RICH.refuses("column " + column, IndexOutOfBoundsException.class, x -> x.place(2, 0, column));
            RICH.refuses("row 7, column " + column, IndexOutOfBoundsException.class, x -> x.place(2, 7, column));
        }
        RICH.refuses("row 1, column -1 is not cell 7", IndexOutOfBoundsException.class, x -> x.place(2, 1, -1));
        RICH.refuses("row 0, column 8 is not cell 8", IndexOutOfBoundsException.class, x -> x.place(2, 0, 8));
        RICH.refuses("row -1, column 8 is not cell 0", IndexOutOfBoundsException.class, x -> x.place(2, -1, 8));
        RICH.refuses("row 8, column -1 is not cell 63", IndexOutOfBoundsException.class, x -> x.place(2, 8, -1));
    }

    private static void promise14TheFragmentIsPlaced() {
        RICH.refuses("on another cell", IllegalStateException.class, x -> x.place(0, 0, 0));
        RICH.refuses("where it is", IllegalStateException.class, x -> x.place(4, 7, 7));
        ALL_PLACED.refuses("the last of twenty", IllegalStateException.class, x -> x.place(19, 7, 7));
    }

    private static void promise14TheCellIsNotEmpty() {
        RICH.refuses("cell 27", IllegalStateException.class, x -> x.place(2, 3, 3));
        RICH.refuses("cell 63", IllegalStateException.class, x -> x.place(2, 7, 7));
        Twins corner = new Twins(CHECKS, () -> {
            MosaicCatalogue x = Examples.checkered(2);
            x.place(0, 0, 0);
            return x;
        });
        corner.refuses("cell 0", IllegalStateException.class, x -> x.place(1, 0, 0));
    }

    private static void promise14NoSuchFragmentDecidesFirst() {
        RICH.refuses("and no such row", NoSuchElementException.class, x -> x.place(7, 8, 0));
        RICH.refuses("and no such column", NoSuchElementException.class, x -> x.place(-1, 0, -1));
        RICH.refuses("and the cell is taken", NoSuchElementException.class, x -> x.place(5, 3, 3));
    }

    private static void promise14NoSuchCellDecidesBeforeTheState() {
        RICH.refuses("row, placed", IndexOutOfBoundsException.class, x -> x.place(0, 8, 0));
        RICH.refuses("column, placed", IndexOutOfBoundsException.class, x -> x.place(0, 0, -1));
    }

    private static void promise14ItsTurnStays() {
        for (int turn = 0; turn <= 3; turn++) {
            MosaicCatalogue x = new MosaicCatalogue();
            x.addFragment('a', 1, 2, 3, 4);
            x.setTurn(0, turn);
            x.place(0, 5, 6);
            CHECKS.equal("turn " + turn, x.turn(0), turn);
        }
    }

    private static void promise14From0To4Joins() {
        int[] cells = {26, 28, 35, 19};
        for (int sides = 0; sides <= 4; sides++) {
            MosaicCatalogue x = Examples.alike(0, 0, 0, 0, Arrays.copyOf(cells, sides));
            x.addFragment('b', 15, 15, 15, 15);
            CHECKS.equal(sides + " joins", x.place(sides, 3, 3), sides);
        }
    }

    /** The last cell of a row and the first of the next are no neighbours, nor those of the first and last row. */
    private static void promise14NoJoinAcrossTheBorder() {
        int[][] pairs = {{7, 8}, {8, 7}, {0, 56}, {56, 0}, {7, 63}, {63, 0}, {0, 7}, {56, 63}, {55, 56}};
        for (int[] pair : pairs) {
            MosaicCatalogue x = Examples.checkered(2);
            x.place(0, pair[0] / 8, pair[0] % 8);
            CHECKS.equal(pair[0] + " and " + pair[1], x.place(1, pair[1] / 8, pair[1] % 8), 0);
            CHECKS.equal(pair[0] + " and " + pair[1] + " clash", x.clashCount(), 0);
        }
    }

    private static void promise14FromFullTrayToEmptyTray() {
        MosaicCatalogue x = Examples.allPlaced();
        CHECKS.equal("empty tray", x.trayCount(), 0);
        CHECKS.equal("31 joins in five rows of four", x.joinCount(), 31);
        CHECKS.equal("no clash", x.clashCount(), 0);
    }

    private static void promise15NoSuchFragment() {
        for (int id : NO_IDS) {
            RICH.refuses("takeBack " + id, NoSuchElementException.class, x -> x.takeBack(id));
        }
        FRESH.refuses("takeBack 0 of none", NoSuchElementException.class, x -> x.takeBack(0));
    }

    private static void promise15ItIsInTheTray() {
        RICH.refuses("takeBack 2", IllegalStateException.class, x -> x.takeBack(2));
        RICH.refuses("takeBack 6", IllegalStateException.class, x -> x.takeBack(6));
        FULL_TRAY.refuses("takeBack 0", IllegalStateException.class, x -> x.takeBack(0));
        FULL_TRAY.refuses("takeBack 19", IllegalStateException.class, x -> x.takeBack(19));
    }

    private static void promise15From0To4JoinsThatItHad() {
        int[] cells = {26, 28, 35, 19};
        for (int sides = 0; sides <= 4; sides++) {
            MosaicCatalogue x = new MosaicCatalogue();
            x.addFragment('b', 15, 15, 15, 15);
            x.place(0, 3, 3);
            for (int side = 0; side < 4; side++) {
                int pattern = side < sides ? 0 : 1;
                x.place(x.addFragment('a', pattern, pattern, pattern, pattern), cells[side] / 8, cells[side] % 8);
            }
            CHECKS.equal(sides + " joins and " + (4 - sides) + " clashes", x.takeBack(0), sides);
            CHECKS.equal("its cell is empty", x.isEmpty(3, 3), true);
            CHECKS.equal("it is in the tray", x.inTray(0), 0);
        }
    }

    private static void promise15ItsTurnStays() {
        for (int turn = 0; turn <= 3; turn++) {
            MosaicCatalogue x = Examples.checkered(1);
            x.place(0, 0, 7);
            x.setTurn(0, turn);
            x.takeBack(0);
            CHECKS.equal("turn " + turn, x.turn(0), turn);
        }
    }

    private static void promise15TheLastOnTheGrid() {
        MosaicCatalogue x = Examples.allPlaced();
        for (int id = 0; id < 20; id++) {
            x.takeBack(id);
        }
        CHECKS.equal("empty grid", x.placedMask(), 0L);
        CHECKS.equal("full tray", x.trayCount(), 20);
        CHECKS.equal("in order", x.inTray(19), 19);
    }

    private static void promise16NoSuchFragment() {
        for (int id : NO_IDS) {
            RICH.refuses("setTurn of " + id, NoSuchElementException.class, x -> x.setTurn(id, 1));
        }
        FRESH.refuses("setTurn of 0 of none", NoSuchElementException.class, x -> x.setTurn(0, 0));
    }

    private static void promise16TurnIsNotFrom0To3() {
        for (int turn : Examples.NO_QUARTERS) {
            RICH.refuses("in the tray, turn " + turn, IllegalArgumentException.class, x -> x.setTurn(2, turn));
            RICH.refuses("on the grid, turn " + turn, IllegalArgumentException.class, x -> x.setTurn(0, turn));
        }
    }

    private static void promise16NoSuchFragmentDecidesBeforeTheTurn() {
        RICH.refuses("7 and 4", NoSuchElementException.class, x -> x.setTurn(7, 4));
        RICH.refuses("-1 and -1", NoSuchElementException.class, x -> x.setTurn(-1, -1));
    }

    private static void promise16EachPreviousTurnFrom0To3() {
        for (int from = 0; from <= 3; from++) {
            for (int to = 0; to <= 3; to++) {
                MosaicCatalogue x = Examples.checkered(2);
                x.place(1, 7, 0);
                x.setTurn(0, from);
                x.setTurn(1, from);
                CHECKS.equal("in the tray, " + from + " to " + to, x.setTurn(0, to), from);
                CHECKS.equal("on the grid, " + from + " to " + to, x.setTurn(1, to), from);
                CHECKS.equal("in the tray, now " + to, x.turn(0), to);
                CHECKS.equal("on the grid, now " + to, x.turn(1), to);
            }
        }
    }

    private static void promise17NoSuchFragmentForEither() {
        for (int id : NO_IDS) {
            RICH.refuses("first " + id, NoSuchElementException.class, x -> x.swap(id, 0));
            RICH.refuses("second " + id, NoSuchElementException.class, x -> x.swap(0, id));
            RICH.refuses("both " + id, NoSuchElementException.class, x -> x.swap(id, id));
        }
        FRESH.refuses("none", NoSuchElementException.class, x -> x.swap(0, 1));
    }

    private static void promise17BothAreTheSame() {
        RICH.refuses("0 and 0", IllegalArgumentException.class, x -> x.swap(0, 0));
        RICH.refuses("4 and 4", IllegalArgumentException.class, x -> x.swap(4, 4));
        ALL_PLACED.refuses("19 and 19", IllegalArgumentException.class, x -> x.swap(19, 19));
    }

    private static void promise17OneIsInTheTray() {
        RICH.refuses("the first", IllegalStateException.class, x -> x.swap(2, 0));
        RICH.refuses("the second", IllegalStateException.class, x -> x.swap(0, 2));
        RICH.refuses("both", IllegalStateException.class, x -> x.swap(2, 6));
        FULL_TRAY.refuses("all are", IllegalStateException.class, x -> x.swap(0, 19));
    }

    private static void promise17WhichExceptionDecides() {
        RICH.refuses("no first, second in the tray", NoSuchElementException.class, x -> x.swap(7, 2));
        RICH.refuses("no second, first in the tray", NoSuchElementException.class, x -> x.swap(2, 7));
        RICH.refuses("the same and in the tray", IllegalArgumentException.class, x -> x.swap(2, 2));
    }

    private static void promise17FirstAndLastCell() {
        MosaicCatalogue x = Examples.checkered(3);
        x.place(0, 0, 0);
        x.place(1, 7, 7);
        x.place(2, 7, 6);
        x.setTurn(0, 1);
        x.setTurn(1, 3);
        CHECKS.equal("no joins afterwards", x.swap(0, 1), 0);
        CHECKS.equal("0 is on 63", x.cell(0), 63);
        CHECKS.equal("1 is on 0", x.cell(1), 0);
        CHECKS.equal("the grid at 63", x.fragmentAt(7, 7), 0);
        CHECKS.equal("the grid at 0", x.fragmentAt(0, 0), 1);
        CHECKS.equal("the turn of 0 stays", x.turn(0), 1);
        CHECKS.equal("the turn of 1 stays", x.turn(1), 3);
        CHECKS.equal("back again", x.swap(1, 0), 1);
    }

    private static void promise17NeighboursAndTheOtherOrder() {
        MosaicCatalogue x = Examples.alike(1, 2, 3, 13, 27, 28);
        CHECKS.equal("2 and 13 join", x.joinCount(), 1);
        CHECKS.equal("all alike", x.swap(0, 1), 1);
        x.setTurn(0, 2);
        CHECKS.equal("turned", x.joinCount(), 0);
        CHECKS.equal("in the other order", x.swap(1, 0), 0);
    }

    /** The most joins that twenty fragments can have. */
    private static void promise17AllJoinsOnAFullGrid() {
        MosaicCatalogue x = Examples.allPlaced();
        CHECKS.equal("two that are alike", x.swap(0, 2), 31);
        CHECKS.equal("two that are not", x.swap(0, 1) < 31, true);
        CHECKS.equal("back", x.swap(0, 1), 31);
    }

    private static void promise18RowIsNotFrom0To7() {
        for (int row : Examples.NO_LINES) {
            RICH.refuses("row " + row, IndexOutOfBoundsException.class, x -> x.placeGuess(row, 3));
        }
    }

    private static void promise18ColumnIsNotFrom0To7() {
        for (int column : Examples.NO_LINES) {
            RICH.refuses("column " + column, IndexOutOfBoundsException.class, x -> x.placeGuess(3, column));
        }
    }

    private static void promise18TheCellIsNotAGap() {
        RICH.refuses("a fragment is there", UnsupportedOperationException.class, x -> x.placeGuess(3, 3));
        RICH.refuses("the last cell", UnsupportedOperationException.class, x -> x.placeGuess(7, 7));
        RICH.refuses("no neighbour", UnsupportedOperationException.class, x -> x.placeGuess(0, 0));
        RICH.refuses("only a corner meets", UnsupportedOperationException.class, x -> x.placeGuess(2, 2));
        FULL_TRAY.refuses("an empty grid", UnsupportedOperationException.class, x -> x.placeGuess(0, 0));
        FRESH.refuses("a new object", UnsupportedOperationException.class, x -> x.placeGuess(7, 7));
    }

    private static void promise18TheTrayIsEmpty() {
        ALL_PLACED.refuses("twenty are placed", NoSuchElementException.class, x -> x.placeGuess(5, 0));
        Twins one = new Twins(CHECKS, () -> Examples.alike(0, 0, 0, 0, 0));
        one.refuses("one is placed", NoSuchElementException.class, x -> x.placeGuess(0, 1));
    }

    private static void promise18WhichExceptionDecides() {
        ALL_PLACED.refuses("no row, empty tray", IndexOutOfBoundsException.class, x -> x.placeGuess(8, 0));
        ALL_PLACED.refuses("no column, empty tray", IndexOutOfBoundsException.class, x -> x.placeGuess(0, -1));
        ALL_PLACED.refuses("no gap, empty tray", UnsupportedOperationException.class, x -> x.placeGuess(7, 7));
        FRESH.refuses("no row, no gap", IndexOutOfBoundsException.class, x -> x.placeGuess(-1, 0));
    }

    private static void promise18OneInTheTrayAndAnyWeight() {
        MosaicCatalogue x = Examples.alike(1, 1, 1, 1, 1, 8, 10, 17);
        x.addFragment('b', 1, 1, 1, 1);
        CHECKS.equal("the least weight of all", x.weight(4, 1, 1, 0), -12);
        CHECKS.equal("is placed all the same", x.placeGuess(1, 1), 4);
        CHECKS.equal("at the smallest turn", x.turn(4), 0);
        CHECKS.equal("the tray is empty", x.trayCount(), 0);
    }

    private static void promise18EachBestTurnFrom0To3() {
        for (int turn = 0; turn <= 3; turn++) {
            MosaicCatalogue x = Examples.alike(0, 1, 0, 0, 0);
            int[] edges = {0, 0, 0, 0};
            edges[(3 - turn + 4) % 4] = 14;
            x.addFragment('b', edges[0], edges[1], edges[2], edges[3]);
            x.setTurn(1, 3 - turn);
            CHECKS.equal("it is placed", x.placeGuess(0, 1), 1);
            CHECKS.equal("turn " + turn, x.turn(1), turn);
            CHECKS.equal("it joins", x.joinCount(), 1);
        }
    }

    private static void promise18OfSeveralTheSmallestId() {
        MosaicCatalogue x = Examples.alike(0, 0, 0, 0, 63);
        for (int id = 1; id < 20; id++) {
            x.addFragment('b', 15, 15, 15, 15);
        }
        x.removeFragment(1);
        CHECKS.equal("the smallest that is there", x.placeGuess(7, 6), 2);
        CHECKS.equal("the next", x.placeGuess(6, 7), 3);
    }

    private static void promise19NothingToFill() {
        CHECKS.equal("a new object", new MosaicCatalogue().fill(), 0);
        CHECKS.equal("an empty grid", Examples.fullTray().fill(), 0);
        CHECKS.equal("an empty tray", Examples.allPlaced().fill(), 0);
    }

    private static void promise19AFillOfNoneChangesNothingButTheHistory() {
        MosaicCatalogue x = Examples.rich();
        String before = Checks.picture(x);
        CHECKS.equal("one is placed", x.fill() > 0, true);
        x.undo();
        CHECKS.equal("the eighth change is gone", Checks.picture(x), before.replace("undo 8", "undo 7"));
        MosaicCatalogue y = Examples.fullTray();
        before = Checks.picture(y);
        y.fill();
        CHECKS.equal("nothing is placed", Checks.picture(y), before);
    }

    /** One of three outline edges of cell 1 fits fragment 3, which fits nothing else. */
    private static MosaicCatalogue oneFits(char first, char second, char third) {
        MosaicCatalogue x = new MosaicCatalogue();
        x.place(x.addFragment(first, 1, 1, 1, 1), 0, 0);
        x.place(x.addFragment(second, 1, 1, 1, 1), 0, 2);
        x.place(x.addFragment(third, 2, 1, 1, 1), 1, 1);
        x.addFragment('a', 13, 1, 1, 1);
        return x;
    }

    private static void promise19AWeightOf0IsNotPlaced() {
        MosaicCatalogue x = oneFits('a', 'a', 'b');
        CHECKS.equal("4 - 6 + 2", x.weight(3, 0, 1, x.bestTurn(3, 0, 1)), 0);
        CHECKS.equal("not placed", x.fill(), 0);
        CHECKS.equal("still in the tray", x.isPlaced(3), false);
    }

    private static void promise19AWeightOf1IsPlaced() {
        MosaicCatalogue x = oneFits('a', 'a', 'a');
        CHECKS.equal("4 - 6 + 3", x.weight(3, 0, 1, x.bestTurn(3, 0, 1)), 1);
        CHECKS.equal("placed", x.fill(), 1);
        CHECKS.equal("between the three", x.cell(3), 1);
    }

    private static void promise19AWeightBelow0IsNotPlaced() {
        MosaicCatalogue x = oneFits('a', 'b', 'b');
        CHECKS.equal("4 - 6 + 1", x.weight(3, 0, 1, x.bestTurn(3, 0, 1)), -1);
        CHECKS.equal("not placed", x.fill(), 0);
    }

    private static void promise19TheWholeTray() {
        MosaicCatalogue x = Examples.fullTray();
        x.place(0, 0, 0);
        CHECKS.equal("nineteen", x.fill(), 19);
        CHECKS.equal("empty tray", x.trayCount(), 0);
        CHECKS.equal("no more", x.fill(), 0);
    }

    private static void promise19OneFragment() {
        for (int cell : new int[] {0, 7, 56, 63}) {
            MosaicCatalogue x = Examples.alike(0, 0, 0, 0, cell);
            x.addFragment('b', 15, 15, 15, 15);
            CHECKS.equal("one beside " + cell, x.fill(), 1);
            CHECKS.equal("on the smaller cell", x.cell(1), cell == 0 ? 1 : cell == 7 ? 6 : cell - 8);
            CHECKS.equal("two are placed", Long.bitCount(x.placedMask()), 2);
        }
    }

    private static void promise19OfSeveralGapsTheSmallestCell() {
        MosaicCatalogue x = Examples.alike(0, 0, 0, 0, 27);
        x.addFragment('b', 15, 15, 15, 15);
        x.fill();
        CHECKS.equal("north", x.cell(1), 19);
        MosaicCatalogue y = Examples.alike(1, 0, 0, 0, 27);
        y.addFragment('b', 15, 15, 15, 15);
        y.fill();
        CHECKS.equal("west, as north does not fit", y.cell(1), 26);
        MosaicCatalogue z = Examples.alike(1, 0, 0, 1, 27);
        z.addFragment('b', 15, 15, 15, 15);
        z.fill();
        CHECKS.equal("east before south", z.cell(1), 28);
    }

    private static void promise19TheFirstAndTheLastCell() {
        MosaicCatalogue x = Examples.alike(0, 0, 0, 0, 1);
        x.addFragment('b', 15, 15, 15, 15);
        x.fill();
        CHECKS.equal("cell 0", x.cell(1), 0);
        MosaicCatalogue y = Examples.alike(3, 0, 3, 3, 62);
        y.addFragment('b', 15, 15, 15, 15);
        y.fill();
        CHECKS.equal("cell 63", y.cell(1), 63);
    }

    private static void promise19ATakenCellIsNoGap() {
        MosaicCatalogue x = Examples.alike(0, 0, 0, 0, 0, 2, 9);
        x.place(x.addFragment('b', 3, 3, 3, 3), 0, 1);
        x.addFragment('c', 15, 15, 15, 15);
        CHECKS.equal("one is placed", x.fill(), 1);
        CHECKS.equal("not where three edges would fit", x.fragmentAt(0, 1), 3);
        CHECKS.equal("but beside", x.cell(4), 8);
    }

    private static void promise19TheFirstFragment() {
        MosaicCatalogue x = Examples.checkered(2);
        x.place(1, 7, 7);
        CHECKS.equal("0 is placed", x.fill(), 1);
        CHECKS.equal("north of it", x.cell(0), 55);
    }

    private static void promise19EachBestTurnFrom0To3() {
        for (int number = 0; number < 4; number++) {
            MosaicCatalogue x = Examples.alike(3, 3, 1, 3, 0);
            int[] edges = {3, 3, 3, 3};
            edges[number] = 14;
            x.addFragment('b', edges[0], edges[1], edges[2], edges[3]);
            CHECKS.equal("edge " + number + " fits", x.fill(), 1);
            CHECKS.equal("edge " + number + ": cell", x.cell(1), 8);
            CHECKS.equal("edge " + number + ": turn", x.turn(1), (4 - number) % 4);
        }
    }

    private static void promise19TheGreatestWeightBeforeTheSmallestCell() {
        MosaicCatalogue x = Examples.alike(0, 0, 0, 0, 0, 61, 63);
        x.addFragment('b', 15, 15, 15, 15);
        CHECKS.equal("placed", x.fill(), 1);
        CHECKS.equal("two edges fit there", x.cell(3), 62);
    }

    private static void promise19OfSeveralFragmentsTheSmallestId() {
        MosaicCatalogue x = Examples.alike(0, 3, 3, 3, 63);
        x.addFragment('b', 15, 0, 0, 0);
        x.addFragment('b', 15, 0, 0, 0);
        x.fill();
        CHECKS.equal("the smaller id", x.fragmentAt(6, 7), 1);
        CHECKS.equal("at its best turn", x.turn(1), 2);
    }

    private static void promise19AFragmentMakesNewGaps() {
        MosaicCatalogue x = Examples.alike(1, 1, 1, 2, 7);
        x.addFragment('b', 2, 13, 2, 4);
        x.addFragment('c', 2, 11, 2, 2);
        CHECKS.equal("one after the other", x.fill(), 2);
        CHECKS.equal("beside the first", x.cell(1), 6);
        CHECKS.equal("beside the second", x.cell(2), 5);
    }
}
