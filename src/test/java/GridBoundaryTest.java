import java.util.Arrays;
import java.util.NoSuchElementException;

/** Promises 20 to 31: a test for each sentence that names a boundary case. */
public final class GridBoundaryTest {
    private static final Checks CHECKS = new Checks();
    private static final Twins FRESH = new Twins(CHECKS, Examples::fresh);
    private static final Twins RICH = new Twins(CHECKS, Examples::rich);
    private static final Twins FULL_TRAY = new Twins(CHECKS, Examples::fullTray);
    private static final Twins ALL_PLACED = new Twins(CHECKS, Examples::allPlaced);
    // In Examples.rich: 5 was removed, 7 is the id that is given next.
    private static final int[] NO_IDS = {-1, 5, 7, 8, 20, 64, Integer.MIN_VALUE, Integer.MAX_VALUE, 1 << 16};
    private static final int[] AROUND_27 = {19, 28, 35, 26};

    public static void main(String[] arguments) throws IllegalAccessException {
        CHECKS.runPromises(GridBoundaryTest.class);
    }

    private static void promise20RowIsNotFrom0To7() {
        for (int row : Examples.NO_LINES) {
            RICH.refuses("row " + row, IndexOutOfBoundsException.class, x -> x.isEmpty(row, 3));
        }
    }

    private static void promise20ColumnIsNotFrom0To7() {
        for (int column : Examples.NO_LINES) {
            RICH.refuses("column " + column, IndexOutOfBoundsException.class, x -> x.isEmpty(3, column));
        }
        RICH.refuses("row 8, column -1 is not cell 63", IndexOutOfBoundsException.class, x -> x.isEmpty(8, -1));
    }

    private static void promise20EachCellOfTheGrid() {
        for (int placed = 0; placed < 64; placed++) {
            MosaicCatalogue x = Examples.alike(0, 0, 0, 0, placed);
            for (int cell = 0; cell < 64; cell++) {
                CHECKS.equal(placed + ": isEmpty " + cell, x.isEmpty(cell / 8, cell % 8), cell != placed);
            }
        }
    }

    private static void promise20EmptyAgain() {
        MosaicCatalogue x = Examples.alike(0, 0, 0, 0, 0, 63);
        x.takeBack(1);
        CHECKS.equal("after takeBack", x.isEmpty(7, 7), true);
        x.undo();
        CHECKS.equal("after undo of takeBack", x.isEmpty(7, 7), false);
        x.undo();
        CHECKS.equal("after undo of place", x.isEmpty(7, 7), true);
        CHECKS.equal("the other", x.isEmpty(0, 0), false);
    }

    private static void promise21RowIsNotFrom0To7() {
        for (int row : Examples.NO_LINES) {
            RICH.refuses("row " + row, IndexOutOfBoundsException.class, x -> x.fragmentAt(row, 3));
        }
    }

    private static void promise21ColumnIsNotFrom0To7() {
        for (int column : Examples.NO_LINES) {
            RICH.refuses("column " + column, IndexOutOfBoundsException.class, x -> x.fragmentAt(3, column));
        }
        RICH.refuses("row 8, column -1 is not cell 63", IndexOutOfBoundsException.class, x -> x.fragmentAt(8, -1));
    }

    private static void promise21TheCellIsEmpty() {
        RICH.refuses("the first cell", NoSuchElementException.class, x -> x.fragmentAt(0, 0));
        RICH.refuses("a gap", NoSuchElementException.class, x -> x.fragmentAt(2, 3));
        FRESH.refuses("a new object", NoSuchElementException.class, x -> x.fragmentAt(7, 7));
        RICH.answers("the last cell", 4, x -> x.fragmentAt(7, 7));
    }

    private static void promise21AllTwenty() {
        for (int id = 0; id < 20; id++) {
            int row = id / 4;
            int column = row % 2 == 0 ? id % 4 : 3 - id % 4;
            int due = id;
            ALL_PLACED.answers("fragment " + id, due, x -> x.fragmentAt(row, column));
        }
    }

    private static void promise22FirstAndLastBit() {
        CHECKS.equal("cell 0", Examples.alike(0, 0, 0, 0, 0).placedMask(), 1L);
        CHECKS.equal("cell 31", Examples.alike(0, 0, 0, 0, 31).placedMask(), 0x80000000L);
        CHECKS.equal("cell 32", Examples.alike(0, 0, 0, 0, 32).placedMask(), 0x100000000L);
        CHECKS.equal("cell 63", Examples.alike(0, 0, 0, 0, 63).placedMask(), Long.MIN_VALUE);
        CHECKS.equal("cells 0 and 63", Examples.alike(0, 0, 0, 0, 0, 63).placedMask(), Long.MIN_VALUE + 1);
    }

    private static void promise22NoneAndTwenty() {
        FRESH.answers("a new object", 0L, x -> x.placedMask());
        FULL_TRAY.answers("all in the tray", 0L, x -> x.placedMask());
        ALL_PLACED.answers("five rows of four", 0x0F0F0F0F0FL, x -> x.placedMask());
    }

    private static void promise23ColourIsNotFromAToF() {
        for (char colour : Examples.NO_COLOURS) {
            RICH.refuses("colour " + (int) colour, IllegalArgumentException.class, x -> x.colourMask(colour));
        }
        FRESH.refuses("nothing is placed", IllegalArgumentException.class, x -> x.colourMask('g'));
    }

    private static void promise23ColoursFromAToF() {
        long all = 0;
        MosaicCatalogue x = Examples.allPlaced();
        for (char colour = 'a'; colour <= 'f'; colour++) {
            long mask = x.colourMask(colour);
            CHECKS.equal("twenty by six, colour " + colour, Long.bitCount(mask), colour <= 'b' ? 4 : 3);
            all |= mask;
        }
        CHECKS.equal("together", all, x.placedMask());
    }

    private static void promise23FirstAndLastBit() {
        MosaicCatalogue x = new MosaicCatalogue();
        x.place(x.addFragment('f', 0, 0, 0, 0), 0, 0);
        x.place(x.addFragment('f', 0, 0, 0, 0), 7, 7);
        x.addFragment('f', 0, 0, 0, 0);
        CHECKS.equal("cells 0 and 63", x.colourMask('f'), Long.MIN_VALUE + 1);
        CHECKS.equal("no e", x.colourMask('e'), 0L);
    }

    private static void gapsAre(String what, MosaicCatalogue x, int... cells) {
        long due = 0;
        for (int cell : cells) {
            due |= 1L << cell;
        }
        CHECKS.equal(what + ": gapMask", x.gapMask(), due);
        CHECKS.equal(what + ": gapMaskByShifts", x.gapMaskByShifts(), due);
        CHECKS.equal(what + ": gapCount", x.gapCount(), cells.length);
        CHECKS.equal(what + ": isConsistent", x.isConsistent(), true);
    }

    private static void promise24CornersHaveTwoNeighbours() {
        gapsAre("cell 0", Examples.alike(0, 0, 0, 0, 0), 1, 8);
        gapsAre("cell 7", Examples.alike(0, 0, 0, 0, 7), 6, 15);
        gapsAre("cell 56", Examples.alike(0, 0, 0, 0, 56), 48, 57);
        gapsAre("cell 63", Examples.alike(0, 0, 0, 0, 63), 55, 62);
    }

    private static void promise24CornersAreGaps() {
        gapsAre("cell 1", Examples.alike(0, 0, 0, 0, 1), 0, 2, 9);
        gapsAre("cell 8", Examples.alike(0, 0, 0, 0, 8), 0, 9, 16);
        gapsAre("cell 6", Examples.alike(0, 0, 0, 0, 6), 5, 7, 14);
        gapsAre("cell 15", Examples.alike(0, 0, 0, 0, 15), 7, 14, 23);
        gapsAre("cell 48", Examples.alike(0, 0, 0, 0, 48), 40, 49, 56);
        gapsAre("cell 57", Examples.alike(0, 0, 0, 0, 57), 49, 56, 58);
        gapsAre("cell 55", Examples.alike(0, 0, 0, 0, 55), 47, 54, 63);
        gapsAre("cell 62", Examples.alike(0, 0, 0, 0, 62), 54, 61, 63);
    }

    private static void promise24BordersHaveThreeNeighbours() {
        gapsAre("north", Examples.alike(0, 0, 0, 0, 3), 2, 4, 11);
        gapsAre("east", Examples.alike(0, 0, 0, 0, 31), 23, 30, 39);
        gapsAre("south", Examples.alike(0, 0, 0, 0, 60), 52, 59, 61);
        gapsAre("west", Examples.alike(0, 0, 0, 0, 32), 24, 33, 40);
    }

    private static void promise24NoGaps() {
        FRESH.answers("a new object", 0L, x -> x.gapMask());
        FULL_TRAY.answers("an empty grid", 0L, x -> x.gapMask());
    }

    private static void promise24ATakenCellIsNoGap() {
        gapsAre("a pair", Examples.alike(0, 0, 0, 0, 0, 1), 2, 8, 9);
        gapsAre("a row", Examples.alike(0, 0, 0, 0, 0, 1, 2, 3, 4, 5, 6, 7), 8, 9, 10, 11, 12, 13, 14, 15);
        gapsAre("a hole", Examples.alike(0, 0, 0, 0, 0, 1, 2, 8, 10, 16, 17, 18), 3, 9, 11, 19, 24, 25, 26);
    }

    private static void promise24OneNeighbourToFour() {
        for (int sides = 1; sides <= 4; sides++) {
            MosaicCatalogue x = Examples.alike(0, 0, 0, 0, Arrays.copyOf(AROUND_27, sides));
            CHECKS.equal(sides + " neighbours", x.gapMask() >>> 27 & 1, 1L);
        }
        CHECKS.equal("corners alone", Examples.alike(0, 0, 0, 0, 18, 20, 34, 36).gapMask() >>> 27 & 1, 0L);
    }

    private static void promise25TheColumnsDoNotWrapAround() {
        gapsAre("the last column", Examples.alike(0, 0, 0, 0, 7, 15, 23, 31, 39, 47, 55, 63), 6, 14, 22, 30, 38, 46,
                54, 62);
        gapsAre("the first column", Examples.alike(0, 0, 0, 0, 0, 8, 16, 24, 32, 40, 48, 56), 1, 9, 17, 25, 33, 41,
                49, 57);
    }

    private static void promise25TheRowsDoNotWrapAround() {
        gapsAre("the first row", Examples.alike(0, 0, 0, 0, 0, 1, 2, 3, 4, 5, 6, 7), 8, 9, 10, 11, 12, 13, 14, 15);
        gapsAre("the last row", Examples.alike(0, 0, 0, 0, 56, 57, 58, 59, 60, 61, 62, 63), 48, 49, 50, 51, 52, 53,
                54, 55);
    }

    private static void promise25NoGaps() {
        FRESH.answers("a new object", 0L, x -> x.gapMaskByShifts());
        FULL_TRAY.answers("an empty grid", 0L, x -> x.gapMaskByShifts());
    }

    private static void promise26From0Gaps() {
        FRESH.answers("a new object", 0, x -> x.gapCount());
        FULL_TRAY.answers("an empty grid", 0, x -> x.gapCount());
        ALL_PLACED.answers("five rows of four", 9, x -> x.gapCount());
        CHECKS.equal("one in a corner", Examples.alike(0, 0, 0, 0, 63).gapCount(), 2);
    }

    /** Every third cell of a diagonal pattern: as many gaps as twenty fragments make. */
    private static void promise26AllOtherCellsAreGaps() {
        MosaicCatalogue x = new MosaicCatalogue();
        for (int cell = 0; cell < 64 && x.fragmentCount() < 13; cell++) {
            if ((cell % 8 + 2 * (cell / 8)) % 5 == 0) {
                x.place(x.addFragment('a', 0, 0, 0, 0), cell / 8, cell % 8);
            }
        }
        int uncovered = 0;
        for (int cell = 0; cell < 64; cell++) {
            uncovered += (x.gapMask() | x.placedMask()) >>> cell & 1;
        }
        CHECKS.equal("gaps and fragments", x.gapCount() + x.fragmentCount(), uncovered);
        CHECKS.equal("both ways agree", x.gapMask(), x.gapMaskByShifts());
    }

    private static void promise27From0To31() {
        FRESH.answers("a new object", 0, x -> x.joinCount());
        FULL_TRAY.answers("an empty grid", 0, x -> x.joinCount());
        ALL_PLACED.answers("five rows of four", 31, x -> x.joinCount());
        CHECKS.equal("one alone", Examples.alike(0, 15, 0, 15, 27).joinCount(), 0);
    }

    private static void promise27NoBitInCommonAndAllFour() {
        for (int first = 0; first <= 15; first++) {
            for (int second = 0; second <= 15; second++) {
                MosaicCatalogue x = new MosaicCatalogue();
                x.place(x.addFragment('a', 0, 0, first, 0), 6, 7);
                x.place(x.addFragment('a', second, 0, 0, 0), 7, 7);
                CHECKS.equal(first + " over " + second, x.joinCount(), first + second == 15 ? 1 : 0);
                CHECKS.equal(first + " over " + second + ": clash", x.clashCount(), first + second == 15 ? 0 : 1);
            }
        }
    }

    private static void promise27NoPairsAcrossTheBorder() {
        int[][] pairs = {{7, 8}, {0, 56}, {7, 63}, {0, 63}, {0, 7}, {56, 63}, {55, 56}, {15, 16}};
        for (int[] pair : pairs) {
            MosaicCatalogue x = Examples.alike(0, 15, 0, 0, pair);
            CHECKS.equal("joins of " + pair[0] + " and " + pair[1], x.joinCount(), 0);
            CHECKS.equal("clashes of " + pair[0] + " and " + pair[1], x.clashCount(), 0);
        }
    }

    /** One is placed beside where a fragment without a cell might be looked for. */
    private static void promise27FragmentsInTheTrayAreNoPart() {
        for (int cell : new int[] {0, 7, 8, 56, 63}) {
            MosaicCatalogue x = Examples.checkered(20);
            x.place(19, cell / 8, cell % 8);
            CHECKS.equal("joins of one on " + cell, x.joinCount(), 0);
            CHECKS.equal("clashes of one on " + cell, x.clashCount(), 0);
            x.takeBack(19);
            x.place(0, cell / 8, cell % 8);
            CHECKS.equal("joins of the first on " + cell, x.joinCount(), 0);
            CHECKS.equal("clashes of the first on " + cell, x.clashCount(), 0);
        }
    }

    private static void promise27FragmentsBehindThoseInTheTray() {
        MosaicCatalogue x = Examples.checkered(5);
        x.place(2, 0, 0);
        x.place(3, 0, 1);
        x.place(4, 1, 1);
        CHECKS.equal("two joins", x.joinCount(), 2);
        x.takeBack(3);
        CHECKS.equal("no joins", x.joinCount(), 0);
        x.place(0, 0, 1);
        CHECKS.equal("two clashes", x.clashCount(), 2);
    }

    private static void promise28From0To31() {
        FRESH.answers("a new object", 0, x -> x.clashCount());
        ALL_PLACED.answers("joins alone", 0, x -> x.clashCount());
        int[] cells = {0, 1, 2, 3, 8, 9, 10, 11, 16, 17, 18, 19, 24, 25, 26, 27, 32, 33, 34, 35};
        CHECKS.equal("clashes alone", Examples.alike(0, 0, 0, 0, cells).clashCount(), 31);
        CHECKS.equal("and no joins", Examples.alike(0, 0, 0, 0, cells).joinCount(), 0);
    }

    private static void promise29NoSuchFragment() {
        for (int id : NO_IDS) {
            RICH.refuses("fitsAt of " + id, NoSuchElementException.class, x -> x.fitsAt(id, 0));
        }
        FRESH.refuses("fitsAt of 0", NoSuchElementException.class, x -> x.fitsAt(0, 0));
    }

    private static void promise29ItIsInTheTray() {
        RICH.refuses("2", NoSuchElementException.class, x -> x.fitsAt(2, 0));
        FULL_TRAY.refuses("19", NoSuchElementException.class, x -> x.fitsAt(19, 3));
    }

    private static void promise29SideIsNotFrom0To3() {
        for (int side : Examples.NO_QUARTERS) {
            RICH.refuses("side " + side, IllegalArgumentException.class, x -> x.fitsAt(0, side));
        }
    }

    private static void promise29NoPlacedFragmentDecidesBeforeTheSide() {
        RICH.refuses("no fragment", NoSuchElementException.class, x -> x.fitsAt(7, 4));
        RICH.refuses("in the tray", NoSuchElementException.class, x -> x.fitsAt(2, -1));
    }

    private static void promise29NoNeighbourAtTheBorder() {
        for (int side = 0; side <= 3; side++) {
            int there = side;
            RICH.answers("the last cell, side " + side, false, x -> x.fitsAt(4, there));
        }
        MosaicCatalogue x = Examples.checkered(2);
        x.place(0, 0, 7);
        x.place(1, 1, 0);
        CHECKS.equal("east of the first row", x.fitsAt(0, 1), false);
        CHECKS.equal("west of the second row", x.fitsAt(1, 3), false);
    }

    private static void promise29EachSideFrom0To3() {
        for (int side = 0; side <= 3; side++) {
            MosaicCatalogue x = new MosaicCatalogue();
            x.place(x.addFragment('a', 0, 0, 0, 0), 3, 3);
            x.place(x.addFragment('a', 15, 15, 15, 15), AROUND_27[side] / 8, AROUND_27[side] % 8);
            for (int other = 0; other <= 3; other++) {
                CHECKS.equal("one at " + side + ", asked at " + other, x.fitsAt(0, other), other == side);
                CHECKS.equal("back to " + side + ", asked at " + other, x.fitsAt(1, other), other == (side + 2) % 4);
            }
        }
    }

    private static void promise30NoSuchFragment() {
        for (int id : NO_IDS) {
            RICH.refuses("clashesOf " + id, NoSuchElementException.class, x -> x.clashesOf(id));
        }
        FRESH.refuses("clashesOf 0", NoSuchElementException.class, x -> x.clashesOf(0));
    }

    private static void promise30ItIsInTheTray() {
        RICH.refuses("2", NoSuchElementException.class, x -> x.clashesOf(2));
        FULL_TRAY.refuses("0", NoSuchElementException.class, x -> x.clashesOf(0));
    }

    private static void promise30From0To4Sides() {
        for (int sides = 0; sides <= 4; sides++) {
            MosaicCatalogue x = Examples.alike(1, 1, 1, 1, Arrays.copyOf(AROUND_27, sides));
            int id = x.addFragment('b', 15, 15, 15, 15);
            x.place(id, 3, 3);
            CHECKS.equal(sides + " clashes", x.clashesOf(id), sides);
        }
        MosaicCatalogue y = Examples.alike(0, 0, 0, 0, AROUND_27);
        y.place(y.addFragment('b', 15, 15, 15, 15), 3, 3);
        CHECKS.equal("four joins are no clashes", y.clashesOf(4), 0);
    }

    private static void promise31RowIsNotFrom0To7() {
        for (int row : Examples.NO_LINES) {
            RICH.refuses("row " + row, IndexOutOfBoundsException.class, x -> x.outlineSize(row, 3));
        }
    }

    private static void promise31ColumnIsNotFrom0To7() {
        for (int column : Examples.NO_LINES) {
            RICH.refuses("column " + column, IndexOutOfBoundsException.class, x -> x.outlineSize(2, column));
        }
    }

    private static void promise31TheCellIsNotAGap() {
        RICH.refuses("a fragment is there", UnsupportedOperationException.class, x -> x.outlineSize(3, 3));
        RICH.refuses("no neighbour", UnsupportedOperationException.class, x -> x.outlineSize(0, 0));
        RICH.refuses("only a corner meets", UnsupportedOperationException.class, x -> x.outlineSize(6, 6));
        FRESH.refuses("a new object", UnsupportedOperationException.class, x -> x.outlineSize(0, 0));
        ALL_PLACED.refuses("far away", UnsupportedOperationException.class, x -> x.outlineSize(7, 7));
    }

    private static void promise31NoSuchCellDecidesBeforeNoGap() {
        FRESH.refuses("row", IndexOutOfBoundsException.class, x -> x.outlineSize(8, 0));
        FRESH.refuses("column", IndexOutOfBoundsException.class, x -> x.outlineSize(0, 8));
    }

    private static void promise31From1To4Edges() {
        for (int sides = 1; sides <= 4; sides++) {
            MosaicCatalogue x = Examples.alike(0, 0, 0, 0, Arrays.copyOf(AROUND_27, sides));
            CHECKS.equal(sides + " edges", x.outlineSize(3, 3), sides);
        }
        CHECKS.equal("the first corner", Examples.alike(0, 0, 0, 0, 1, 8).outlineSize(0, 0), 2);
        CHECKS.equal("the last corner", Examples.alike(0, 0, 0, 0, 55, 62).outlineSize(7, 7), 2);
        CHECKS.equal("not across the border", Examples.alike(0, 0, 0, 0, 7, 9).outlineSize(1, 0), 1);
    }
}
