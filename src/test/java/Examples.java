/** Catalogues that several tests begin with, each made anew. */
final class Examples {
    /** What an id, a rank, an index or a position never is. */
    static final int[] FAR_OFF = {-1, Integer.MIN_VALUE, Integer.MAX_VALUE, 1 << 16, 1 << 31, -64};
    /** Rows and columns that are not there, some of which would wrap around to one that is. */
    static final int[] NO_LINES = {-1, 8, 9, -8, 63, 64, 256, 1 << 16, 1 << 29, (1 << 29) + 3, -(1 << 29),
        Integer.MIN_VALUE, Integer.MIN_VALUE + 3, Integer.MAX_VALUE};
    /** Sides and turns that are not there; modulo 4 each of them would be. */
    static final int[] NO_QUARTERS = {-1, 4, 5, -4, 8, 256, 1 << 16, Integer.MIN_VALUE, Integer.MAX_VALUE};
    /** Patterns that are not there; modulo 16 each of them would be. */
    static final int[] NO_PATTERNS = {-1, 16, 17, -16, 31, 256, 1 << 16, Integer.MIN_VALUE, Integer.MAX_VALUE};
    static final char[] NO_COLOURS = {'`', 'g', 'A', 'F', 0, '0', ' ', (char) ('a' + 128), (char) ('a' + 256),
        (char) ('f' + 256), (char) 65535};

    private Examples() {
    }

    static MosaicCatalogue fresh() {
        return new MosaicCatalogue();
    }

    /** Examples.ready with an input that one more l makes well-formed. */
    static MosaicCatalogue rich() {
        MosaicCatalogue x = ready();
        Checks.feed(x, "turn 2*3;fil");
        return x;
    }

    /**
     * 0 joins 1 in its east and clashes with 3 in its south, 4 is alone in the last corner; 2 and 6 are in the tray
     * and 5 was removed. More than 8 changes, a saved state, an output, an error position and a failed command.
     */
    static MosaicCatalogue ready() {
        MosaicCatalogue x = new MosaicCatalogue();
        x.addFragment('a', 1, 2, 4, 8);
        x.addFragment('b', 14, 13, 11, 7);
        x.addFragment('a', 0, 15, 0, 15);
        x.addFragment('c', 15, 0, 15, 0);
        x.addFragment('f', 3, 12, 5, 10);
        x.addFragment('e', 6, 6, 6, 6);
        x.addFragment('d', 9, 9, 9, 9);
        x.place(0, 3, 3);
        x.save();
        x.setTurn(1, 2);
        x.place(1, 3, 4);
        x.removeFragment(5);
        x.setTurn(2, 1);
        x.setTurn(1, 2);
        x.place(3, 4, 3);
        Checks.execute(x, "take ?");
        Checks.execute(x, "fill;drop 0");
        x.writeFragment(0);
        x.place(4, 7, 7);
        x.setTurn(1, 2);
        return x;
    }

    /** Twenty fragments, all in the tray. */
    static MosaicCatalogue fullTray() {
        return checkered(20);
    }

    /** Twenty fragments in five rows of four, with no two alike as neighbours: each meeting is a join. */
    static MosaicCatalogue allPlaced() {
        MosaicCatalogue x = checkered(20);
        for (int id = 0; id < 20; id++) {
            int row = id / 4;
            int column = row % 2 == 0 ? id % 4 : 3 - id % 4;
            x.place(id, row, column);
        }
        return x;
    }

    /** Fragments whose edges are all 0, for even ids, or all 15. */
    static MosaicCatalogue checkered(int fragments) {
        MosaicCatalogue x = new MosaicCatalogue();
        for (int id = 0; id < fragments; id++) {
            int pattern = id % 2 * 15;
            x.addFragment((char) ('a' + id % 6), pattern, pattern, pattern, pattern);
        }
        return x;
    }

    /** An input buffer of 60 characters that are well-formed but for the last one. */
    static MosaicCatalogue fullInput() {
        MosaicCatalogue x = checkered(2);
        Checks.feed(x, "fill;fill;fill;fill;fill;fill;fill;fill;fill;fill;fill;fill;");
        return x;
    }

    /** A catalogue with one fragment of these edges on each of the given cells; the ids are in the order of cells. */
    static MosaicCatalogue alike(int north, int east, int south, int west, int... cells) {
        MosaicCatalogue x = new MosaicCatalogue();
        for (int cell : cells) {
            x.place(x.addFragment('a', north, east, south, west), cell / 8, cell % 8);
        }
        return x;
    }
}
