import java.util.NoSuchElementException;

/** Promises 20 to 31: the grid. */
public final class GridTest {
    private static final Checks CHECKS = new Checks();
    private static final int[] NO_IDS = {-1, 5, Integer.MIN_VALUE, Integer.MAX_VALUE};
    private static final int[] NO_LINES = {-1, 8, Integer.MIN_VALUE, Integer.MAX_VALUE};
    private static final int[] NO_SIDES = {-1, 4, Integer.MIN_VALUE, Integer.MAX_VALUE};

    public static void main(String[] arguments) {
        promises20And21Cells();
        promise22PlacedMask();
        promise23ColourMask();
        promises24To26Gaps();
        promises24To26Everywhere();
        promises27And28Pairs();
        promise27EveryPairOfPatterns();
        promise29FitsAt();
        promise30ClashesOf();
        promise31OutlineSize();
        CHECKS.finish("GridTest");
    }

    /** 0 joins 1 in its east and clashes with 2 in its south; 3 is alone in a corner; 4 is in the tray. */
    private static MosaicCatalogue example() {
        MosaicCatalogue x = new MosaicCatalogue();
        x.addFragment('a', 0, 5, 3, 0);
        x.addFragment('b', 0, 0, 0, 10);
        x.addFragment('a', 3, 0, 0, 0);
        x.addFragment('f', 0, 0, 0, 0);
        x.addFragment('a', 0, 0, 0, 0);
        x.place(0, 3, 3);
        x.place(1, 3, 4);
        x.place(2, 4, 3);
        x.place(3, 7, 7);
        return x;
    }

    private static void promises20And21Cells() {
        MosaicCatalogue x = example();
        CHECKS.equal("isEmpty", x.isEmpty(4, 4), true);
        CHECKS.equal("not isEmpty", x.isEmpty(4, 3), false);
        CHECKS.equal("rows are not columns", x.isEmpty(3, 4), false);
        CHECKS.equal("fragmentAt", x.fragmentAt(4, 3), 2);
        CHECKS.equal("fragmentAt the corner", x.fragmentAt(7, 7), 3);
        CHECKS.fails("an empty cell", NoSuchElementException.class, x, () -> x.fragmentAt(0, 0));
        for (int line : NO_LINES) {
            CHECKS.fails("isEmpty row", IndexOutOfBoundsException.class, x, () -> x.isEmpty(line, 0));
            CHECKS.fails("isEmpty column", IndexOutOfBoundsException.class, x, () -> x.isEmpty(0, line));
            CHECKS.fails("fragmentAt row", IndexOutOfBoundsException.class, x, () -> x.fragmentAt(line, 0));
            CHECKS.fails("fragmentAt column", IndexOutOfBoundsException.class, x, () -> x.fragmentAt(0, line));
        }
    }

    private static void promise22PlacedMask() {
        MosaicCatalogue x = example();
        CHECKS.equal("placedMask", x.placedMask(), 1L << 27 | 1L << 28 | 1L << 35 | 1L << 63);
        x.takeBack(3);
        CHECKS.equal("placedMask after takeBack", x.placedMask(), 1L << 27 | 1L << 28 | 1L << 35);
    }

    private static void promise23ColourMask() {
        MosaicCatalogue x = example();
        CHECKS.equal("colour a", x.colourMask('a'), 1L << 27 | 1L << 35);
        CHECKS.equal("colour b", x.colourMask('b'), 1L << 28);
        CHECKS.equal("colour f", x.colourMask('f'), 1L << 63);
        CHECKS.equal("colour c", x.colourMask('c'), 0L);
        x.place(4, 0, 0);
        CHECKS.equal("colour a in the corner", x.colourMask('a'), 1L | 1L << 27 | 1L << 35);
        for (char colour : new char[] {'`', 'g', 'A', 0, (char) 65535}) {
            CHECKS.fails("colour " + (int) colour, IllegalArgumentException.class, x, () -> x.colourMask(colour));
        }
    }

    private static long cells(int... numbers) {
        long mask = 0;
        for (int number : numbers) {
            mask |= 1L << number;
        }
        return mask;
    }

    private static void gapsAre(String what, MosaicCatalogue x, long due) {
        CHECKS.equal(what + ": gapMask", x.gapMask(), due);
        CHECKS.equal(what + ": gapMaskByShifts", x.gapMaskByShifts(), due);
        CHECKS.equal(what + ": gapCount", x.gapCount(), Long.bitCount(due));
    }

    private static void promises24To26Gaps() {
        gapsAre("empty", new MosaicCatalogue(), 0L);
        gapsAre("example", example(), cells(19, 20, 26, 29, 36, 34, 43, 55, 62));
    }

    /** One fragment on each cell in turn, so that each border is looked at. */
    private static void promises24To26Everywhere() {
        MosaicCatalogue x = new MosaicCatalogue();
        x.addFragment('a', 0, 0, 0, 0);
        for (int cell = 0; cell < 64; cell++) {
            int row = cell / 8;
            int column = cell % 8;
            long due = 0;
            due |= row > 0 ? cells(cell - 8) : 0;
            due |= row < 7 ? cells(cell + 8) : 0;
            due |= column > 0 ? cells(cell - 1) : 0;
            due |= column < 7 ? cells(cell + 1) : 0;
            x.place(0, row, column);
            gapsAre("cell " + cell, x, due);
            x.takeBack(0);
        }
    }

    private static void promises27And28Pairs() {
        MosaicCatalogue x = example();
        CHECKS.equal("joinCount", x.joinCount(), 1);
        CHECKS.equal("clashCount", x.clashCount(), 1);
        x.place(4, 4, 4);
        CHECKS.equal("joinCount with 4", x.joinCount(), 1);
        CHECKS.equal("clashCount with 4", x.clashCount(), 3);
        x.setTurn(0, 2);
        CHECKS.equal("joinCount after a turn", x.joinCount(), 0);
        CHECKS.equal("clashCount after a turn", x.clashCount(), 4);
        MosaicCatalogue empty = new MosaicCatalogue();
        CHECKS.equal("no joins", empty.joinCount(), 0);
        CHECKS.equal("no clashes", empty.clashCount(), 0);
        MosaicCatalogue border = new MosaicCatalogue();
        border.addFragment('a', 0, 0, 0, 0);
        border.addFragment('a', 15, 15, 15, 15);
        border.place(0, 0, 7);
        border.place(1, 1, 0);
        CHECKS.equal("the end of a row does not meet the next", border.joinCount() + border.clashCount(), 0);
    }

    private static void promise27EveryPairOfPatterns() {
        for (int first = 0; first < 16; first++) {
            for (int second = 0; second < 16; second++) {
                MosaicCatalogue x = new MosaicCatalogue();
                x.addFragment('a', 0, first, 0, 0);
                x.addFragment('a', 0, 0, 0, second);
                x.place(0, 0, 0);
                x.place(1, 0, 1);
                boolean fits = (first & second) == 0 && (first | second) == 15;
                CHECKS.equal(first + " and " + second + " join", x.joinCount(), fits ? 1 : 0);
                CHECKS.equal(first + " and " + second + " clash", x.clashCount(), fits ? 0 : 1);
            }
        }
    }

    private static void promise29FitsAt() {
        MosaicCatalogue x = example();
        boolean[] due = {false, true, false, false};
        for (int side = 0; side < 4; side++) {
            CHECKS.equal("fitsAt " + side, x.fitsAt(0, side), due[side]);
        }
        CHECKS.equal("the other fits too", x.fitsAt(1, 3), true);
        CHECKS.equal("a border", x.fitsAt(3, 1), false);
        for (int side : NO_SIDES) {
            CHECKS.fails("side " + side, IllegalArgumentException.class, x, () -> x.fitsAt(0, side));
            CHECKS.fails("tray, side " + side, NoSuchElementException.class, x, () -> x.fitsAt(4, side));
            CHECKS.fails("none, side " + side, NoSuchElementException.class, x, () -> x.fitsAt(5, side));
        }
        for (int id : NO_IDS) {
            CHECKS.fails("fitsAt of " + id, NoSuchElementException.class, x, () -> x.fitsAt(id, 0));
        }
        CHECKS.fails("fitsAt in the tray", NoSuchElementException.class, x, () -> x.fitsAt(4, 0));
    }

    private static void promise30ClashesOf() {
        MosaicCatalogue x = example();
        CHECKS.equal("a join and a clash", x.clashesOf(0), 1);
        CHECKS.equal("a join", x.clashesOf(1), 0);
        CHECKS.equal("a clash", x.clashesOf(2), 1);
        CHECKS.equal("alone", x.clashesOf(3), 0);
        CHECKS.fails("in the tray", NoSuchElementException.class, x, () -> x.clashesOf(4));
        for (int id : NO_IDS) {
            CHECKS.fails("clashesOf " + id, NoSuchElementException.class, x, () -> x.clashesOf(id));
        }
        x.place(4, 4, 4);
        CHECKS.equal("two clashes", x.clashesOf(4), 2);
    }

    private static void promise31OutlineSize() {
        MosaicCatalogue x = example();
        CHECKS.equal("one edge", x.outlineSize(2, 3), 1);
        CHECKS.equal("two edges", x.outlineSize(4, 4), 2);
        CHECKS.equal("one edge at the border", x.outlineSize(7, 6), 1);
        x.place(4, 4, 5);
        CHECKS.equal("three edges", x.outlineSize(4, 4), 3);
        x.takeBack(3);
        x.place(3, 5, 4);
        CHECKS.equal("four edges", x.outlineSize(4, 4), 4);
        CHECKS.fails("a taken cell", UnsupportedOperationException.class, x, () -> x.outlineSize(3, 3));
        CHECKS.fails("no gap", UnsupportedOperationException.class, x, () -> x.outlineSize(0, 0));
        for (int line : NO_LINES) {
            CHECKS.fails("row " + line, IndexOutOfBoundsException.class, x, () -> x.outlineSize(line, 0));
            CHECKS.fails("column " + line, IndexOutOfBoundsException.class, x, () -> x.outlineSize(0, line));
        }
    }
}
