import java.util.NoSuchElementException;

/** Promises 1 to 13: a test for each sentence that names a boundary case. */
public final class FragmentsBoundaryTest {
    private static final Checks CHECKS = new Checks();
    private static final Twins FRESH = new Twins(CHECKS, Examples::fresh);
    private static final Twins RICH = new Twins(CHECKS, Examples::rich);
    private static final Twins FULL_TRAY = new Twins(CHECKS, Examples::fullTray);
    private static final Twins ALL_PLACED = new Twins(CHECKS, Examples::allPlaced);
    // In Examples.rich: 5 was removed, 7 is the id that is given next.
    private static final int[] NO_IDS = {-1, 5, 7, 8, 20, 64, Integer.MIN_VALUE, Integer.MAX_VALUE, 1 << 16};

    public static void main(String[] arguments) throws IllegalAccessException {
        CHECKS.runPromises(FragmentsBoundaryTest.class);
    }

    private static void promise1EmptyGrid() {
        MosaicCatalogue x = new MosaicCatalogue();
        for (int cell = 0; cell < 64; cell++) {
            int row = cell / 8;
            int column = cell % 8;
            CHECKS.equal("isEmpty " + cell, x.isEmpty(row, column), true);
            CHECKS.equal("fragmentAt " + cell, Checks.outcome(() -> x.fragmentAt(row, column)),
                    "NoSuchElementException");
        }
        CHECKS.equal("placedMask", x.placedMask(), 0L);
        CHECKS.equal("gapMask", x.gapMask(), 0L);
        CHECKS.equal("gapMaskByShifts", x.gapMaskByShifts(), 0L);
        CHECKS.equal("gapCount", x.gapCount(), 0);
        CHECKS.equal("joinCount", x.joinCount(), 0);
        CHECKS.equal("clashCount", x.clashCount(), 0);
        CHECKS.equal("groupCount", x.groupCount(), 0);
        CHECKS.equal("groupCountByUnions", x.groupCountByUnions(), 0);
        CHECKS.equal("isConsistent", x.isConsistent(), true);
        for (char colour = 'a'; colour <= 'f'; colour++) {
            CHECKS.equal("colourMask " + colour, x.colourMask(colour), 0L);
        }
    }

    private static void promise1EmptyTray() {
        MosaicCatalogue x = new MosaicCatalogue();
        CHECKS.equal("fragmentCount", x.fragmentCount(), 0);
        CHECKS.equal("trayCount", x.trayCount(), 0);
        CHECKS.equal("differentPatterns", x.differentPatterns(), 0);
        FRESH.refuses("inTray", IndexOutOfBoundsException.class, y -> y.inTray(0));
        for (int id = 0; id < 64; id++) {
            CHECKS.equal("exists " + id, x.exists(id), false);
        }
    }

    private static void promise1NothingIsKept() {
        FRESH.refuses("outputCharacter", IndexOutOfBoundsException.class, x -> x.outputCharacter(0));
        FRESH.refuses("errorPosition", NoSuchElementException.class, x -> x.errorPosition());
        FRESH.refuses("failedCommand", NoSuchElementException.class, x -> x.failedCommand());
        FRESH.refuses("undo", IllegalStateException.class, x -> x.undo());
        FRESH.refuses("restore", IllegalStateException.class, x -> x.restore());
        FRESH.answers("undoCount", 0, x -> x.undoCount());
    }

    private static void promise1FirstAnswers() {
        CHECKS.equal("the first id", new MosaicCatalogue().addFragment('f', 0, 0, 0, 0), 0);
        CHECKS.equal("the first character", new MosaicCatalogue().feed('f'), 1);
        CHECKS.equal("the first fill", new MosaicCatalogue().fill(), 0);
        CHECKS.equal("the first save", new MosaicCatalogue().save(), 0);
        CHECKS.equal("the first row", new MosaicCatalogue().writeRow(0), 8);
    }

    private static void promise1ObjectsShareNothing() {
        MosaicCatalogue x = new MosaicCatalogue();
        MosaicCatalogue other = Examples.rich();
        other.save();
        CHECKS.equal("fragments", x.fragmentCount(), 0);
        CHECKS.equal("grid", x.placedMask(), 0L);
        CHECKS.equal("changes", x.undoCount(), 0);
        CHECKS.equal("output", Checks.output(x), "");
        CHECKS.equal("input", x.feed('x'), 1);
        CHECKS.equal("saved", Checks.outcome(x::restore), "IllegalStateException");
        CHECKS.equal("error position", Checks.outcome(x::errorPosition), "NoSuchElementException");
        CHECKS.equal("failed command", Checks.outcome(x::failedCommand), "NoSuchElementException");
    }

    /** The last of 512 calls is answered as well as the first. */
    private static void promise1UsedFor512Calls() {
        MosaicCatalogue x = new MosaicCatalogue();
        for (int pair = 0; pair < 256; pair++) {
            CHECKS.equal("add " + pair, x.addFragment('a', pair % 16, 0, 0, 0), pair);
            CHECKS.equal("remove " + pair, x.removeFragment(pair), 0);
        }
        MosaicCatalogue y = new MosaicCatalogue();
        y.addFragment('a', 0, 0, 0, 0);
        for (int call = 1; call < 512; call++) {
            CHECKS.equal("turn " + call, y.setTurn(0, call % 4), (call - 1) % 4);
        }
        MosaicCatalogue z = new MosaicCatalogue();
        for (int call = 0; call < 512; call++) {
            Object due = call < 60 ? (Object) (call + 1) : "IllegalStateException";
            CHECKS.equal("feed " + call, Checks.outcome(() -> z.feed('x')), due);
        }
    }

    private static void promise2ColoursFromAToF() {
        MosaicCatalogue x = new MosaicCatalogue();
        for (char colour = 'a'; colour <= 'f'; colour++) {
            CHECKS.equal("add " + colour, x.addFragment(colour, 0, 0, 0, 0), colour - 'a');
            CHECKS.equal("colour " + colour, x.colour(colour - 'a'), colour);
        }
    }

    private static void promise2ColourIsNotFromAToF() {
        for (char colour : Examples.NO_COLOURS) {
            RICH.refuses("colour " + (int) colour, IllegalArgumentException.class,
                    x -> x.addFragment(colour, 0, 0, 0, 0));
        }
    }

    private static void promise2PatternsFrom0To15() {
        MosaicCatalogue x = new MosaicCatalogue();
        for (int pattern = 0; pattern <= 15; pattern++) {
            int id = x.addFragment('a', pattern, 15 - pattern, pattern, 15 - pattern);
            CHECKS.equal("north " + pattern, x.edge(id, 0), pattern);
            CHECKS.equal("east " + pattern, x.edge(id, 1), 15 - pattern);
            CHECKS.equal("south " + pattern, x.edge(id, 2), pattern);
            CHECKS.equal("west " + pattern, x.edge(id, 3), 15 - pattern);
        }
    }

    private static void promise2NorthIsNotFrom0To15() {
        for (int pattern : Examples.NO_PATTERNS) {
            RICH.refuses("north " + pattern, IllegalArgumentException.class,
                    x -> x.addFragment('a', pattern, 0, 0, 0));
        }
    }

    private static void promise2EastIsNotFrom0To15() {
        for (int pattern : Examples.NO_PATTERNS) {
            RICH.refuses("east " + pattern, IllegalArgumentException.class,
                    x -> x.addFragment('a', 15, pattern, 15, 15));
        }
    }

    private static void promise2SouthIsNotFrom0To15() {
        for (int pattern : Examples.NO_PATTERNS) {
            RICH.refuses("south " + pattern, IllegalArgumentException.class,
                    x -> x.addFragment('f', 0, 15, pattern, 0));
        }
    }

    private static void promise2WestIsNotFrom0To15() {
        for (int pattern : Examples.NO_PATTERNS) {
            RICH.refuses("west " + pattern, IllegalArgumentException.class,
                    x -> x.addFragment('f', 15, 0, 15, pattern));
        }
    }

    private static void promise2TheTwentiethIsAdded() {
        MosaicCatalogue x = Examples.checkered(19);
        CHECKS.equal("the twentieth", x.addFragment('f', 15, 15, 15, 15), 19);
        CHECKS.equal("there are twenty", x.fragmentCount(), 20);
        CHECKS.equal("it is the last of the tray", x.inTray(19), 19);
        CHECKS.equal("its colour", x.colour(19), 'f');
    }

    private static void promise2ThereAreTwenty() {
        FULL_TRAY.refuses("twenty in the tray", IllegalStateException.class, x -> x.addFragment('a', 0, 0, 0, 0));
    }

    private static void promise2ThereAreTwentyOnTheGrid() {
        ALL_PLACED.refuses("twenty on the grid", IllegalStateException.class, x -> x.addFragment('f', 1, 2, 3, 4));
    }

    private static void promise2AWrongArgumentDecidesBeforeTwenty() {
        FULL_TRAY.refuses("colour", IllegalArgumentException.class, x -> x.addFragment('g', 0, 0, 0, 0));
        FULL_TRAY.refuses("north", IllegalArgumentException.class, x -> x.addFragment('a', 16, 0, 0, 0));
        FULL_TRAY.refuses("east", IllegalArgumentException.class, x -> x.addFragment('a', 0, -1, 0, 0));
        FULL_TRAY.refuses("south", IllegalArgumentException.class, x -> x.addFragment('a', 0, 0, 16, 0));
        FULL_TRAY.refuses("west", IllegalArgumentException.class, x -> x.addFragment('a', 0, 0, 0, -1));
    }

    private static void promise2RoomAgainAfterRemoval() {
        MosaicCatalogue x = Examples.fullTray();
        for (int id = 0; id < 20; id++) {
            x.removeFragment(id);
            CHECKS.equal("in place of " + id, x.addFragment('c', 1, 2, 3, 4), 20 + id);
            CHECKS.equal("full again", Checks.outcome(() -> x.addFragment('c', 1, 2, 3, 4)),
                    "IllegalStateException");
        }
        CHECKS.equal("the first of the tray", x.inTray(0), 20);
        CHECKS.equal("the last of the tray", x.inTray(19), 39);
    }

    private static void promise2RoomAgainAfterUndo() {
        MosaicCatalogue x = Examples.fullTray();
        x.undo();
        CHECKS.equal("the twentieth once more", x.addFragment('d', 1, 2, 3, 4), 19);
        CHECKS.equal("its colour", x.colour(19), 'd');
        CHECKS.equal("full again", Checks.outcome(() -> x.addFragment('c', 1, 2, 3, 4)), "IllegalStateException");
    }

    private static void promise2AnIdIsNotGivenAgain() {
        MosaicCatalogue x = new MosaicCatalogue();
        CHECKS.equal("first", x.addFragment('a', 0, 0, 0, 0), 0);
        x.removeFragment(0);
        CHECKS.equal("not 0 again", x.addFragment('a', 0, 0, 0, 0), 1);
        CHECKS.equal("then 2", x.addFragment('a', 0, 0, 0, 0), 2);
        x.removeFragment(2);
        CHECKS.equal("not 2 again", x.addFragment('a', 0, 0, 0, 0), 3);
    }

    private static void promise2ARefusedCallTakesNoId() {
        MosaicCatalogue x = Examples.checkered(3);
        Checks.outcome(() -> x.addFragment('g', 0, 0, 0, 0));
        Checks.outcome(() -> x.addFragment('a', 0, 0, 0, 16));
        CHECKS.equal("the next", x.addFragment('a', 0, 0, 0, 0), 3);
    }

    private static void promise2TurnIsInitially0AndItIsInTheTray() {
        MosaicCatalogue x = new MosaicCatalogue();
        x.addFragment('a', 1, 2, 3, 4);
        x.setTurn(0, 3);
        x.place(0, 7, 7);
        x.undo();
        x.undo();
        x.undo();
        CHECKS.equal("the id", x.addFragment('b', 5, 6, 7, 8), 0);
        CHECKS.equal("the turn", x.turn(0), 0);
        CHECKS.equal("the place", x.isPlaced(0), false);
        CHECKS.equal("the colour", x.colour(0), 'b');
        CHECKS.equal("the grid", x.placedMask(), 0L);
    }

    private static void promise2TurnIsInitially0AfterAnotherWasRemoved() {
        for (int removed = 0; removed < 3; removed++) {
            MosaicCatalogue x = Examples.checkered(3);
            x.setTurn(0, 1);
            x.setTurn(1, 2);
            x.setTurn(2, 3);
            x.removeFragment(removed);
            x.addFragment('f', 1, 2, 3, 4);
            CHECKS.equal("without " + removed, x.turn(3), 0);
            CHECKS.equal("its north", x.edge(3, 0), 1);
        }
    }

    private static void promise2TurnIsInitially0AfterRestore() {
        MosaicCatalogue x = new MosaicCatalogue();
        x.save();
        x.addFragment('a', 1, 2, 3, 4);
        x.setTurn(0, 3);
        x.place(0, 0, 0);
        x.restore();
        CHECKS.equal("the id", x.addFragment('b', 5, 6, 7, 8), 0);
        CHECKS.equal("the turn", x.turn(0), 0);
        CHECKS.equal("the place", x.isPlaced(0), false);
        CHECKS.equal("the west", x.edge(0, 3), 8);
    }

    private static void promise3NoSuchFragment() {
        for (int id : NO_IDS) {
            RICH.refuses("remove " + id, NoSuchElementException.class, x -> x.removeFragment(id));
        }
        FRESH.refuses("remove 0 of none", NoSuchElementException.class, x -> x.removeFragment(0));
        FULL_TRAY.refuses("remove 20", NoSuchElementException.class, x -> x.removeFragment(20));
    }

    private static void promise3ItIsPlaced() {
        for (int id : new int[] {0, 1, 3, 4}) {
            RICH.refuses("remove " + id, IllegalStateException.class, x -> x.removeFragment(id));
        }
        ALL_PLACED.refuses("remove the last", IllegalStateException.class, x -> x.removeFragment(19));
    }

    private static void promise3RemainingDownTo0() {
        MosaicCatalogue x = Examples.fullTray();
        for (int id = 19; id >= 0; id--) {
            CHECKS.equal("remaining without " + id, x.removeFragment(id), id);
        }
        CHECKS.equal("none again", Checks.outcome(() -> x.removeFragment(0)), "NoSuchElementException");
    }

    private static void promise3PlacedOnesIncluded() {
        MosaicCatalogue x = Examples.allPlaced();
        x.takeBack(19);
        CHECKS.equal("nineteen on the grid", x.removeFragment(19), 19);
        CHECKS.equal("none in the tray", x.trayCount(), 0);
    }

    private static void promise3TheOthersStay() {
        for (int removed = 0; removed < 6; removed++) {
            MosaicCatalogue x = new MosaicCatalogue();
            for (int id = 0; id < 6; id++) {
                x.addFragment((char) ('a' + id), id, id + 1, id + 2, id + 3);
                x.setTurn(id, id % 4);
            }
            x.removeFragment(removed);
            for (int id = 0; id < 6; id++) {
                CHECKS.equal(removed + " gone: exists " + id, x.exists(id), id != removed);
                if (id != removed) {
                    CHECKS.equal(removed + " gone: colour " + id, x.colour(id), (char) ('a' + id));
                    CHECKS.equal(removed + " gone: turn " + id, x.turn(id), id % 4);
                    CHECKS.equal(removed + " gone: edge " + id, x.edge(id, id % 4), id);
                }
            }
        }
    }

    private static void promise4From0To20() {
        MosaicCatalogue x = new MosaicCatalogue();
        for (int count = 0; count < 20; count++) {
            CHECKS.equal("count", x.fragmentCount(), count);
            x.addFragment('a', 0, 0, 0, 0);
            if (count % 2 == 0) {
                x.place(count, count / 8, count % 8);
            }
        }
        CHECKS.equal("twenty", x.fragmentCount(), 20);
        ALL_PLACED.answers("twenty on the grid", 20, y -> y.fragmentCount());
        FULL_TRAY.answers("twenty in the tray", 20, y -> y.fragmentCount());
        RICH.answers("some of each", 6, y -> y.fragmentCount());
    }

    private static void promise5From0To20() {
        FRESH.answers("none at all", 0, x -> x.trayCount());
        ALL_PLACED.answers("none in the tray", 0, x -> x.trayCount());
        FULL_TRAY.answers("all in the tray", 20, x -> x.trayCount());
        RICH.answers("some of each", 2, x -> x.trayCount());
    }

    private static void promise5OneMoreAndOneLess() {
        MosaicCatalogue x = Examples.fullTray();
        for (int id = 0; id < 20; id++) {
            x.place(id, id / 8, id % 8);
            CHECKS.equal("placed " + id, x.trayCount(), 19 - id);
        }
        for (int id = 0; id < 20; id++) {
            x.takeBack(id);
            CHECKS.equal("taken back " + id, x.trayCount(), id + 1);
        }
    }

    private static void promise6FirstAndLastPosition() {
        for (int position = 0; position < 20; position++) {
            int there = position;
            FULL_TRAY.answers("position " + position, position, x -> x.inTray(there));
        }
        RICH.answers("first", 2, x -> x.inTray(0));
        RICH.answers("last", 6, x -> x.inTray(1));
    }

    private static void promise6NoSuchPosition() {
        for (int position : Examples.FAR_OFF) {
            RICH.refuses("position " + position, IndexOutOfBoundsException.class, x -> x.inTray(position));
        }
        RICH.refuses("position 2 of 2", IndexOutOfBoundsException.class, x -> x.inTray(2));
        RICH.refuses("position 6, an id", IndexOutOfBoundsException.class, x -> x.inTray(6));
        FULL_TRAY.refuses("position 20 of 20", IndexOutOfBoundsException.class, x -> x.inTray(20));
        FULL_TRAY.refuses("position -1 of 20", IndexOutOfBoundsException.class, x -> x.inTray(-1));
    }

    private static void promise6EmptyTray() {
        FRESH.refuses("no fragments", IndexOutOfBoundsException.class, x -> x.inTray(0));
        ALL_PLACED.refuses("all are placed", IndexOutOfBoundsException.class, x -> x.inTray(0));
    }

    private static void promise6AscendingOrder() {
        MosaicCatalogue x = Examples.checkered(4);
        for (int id = 0; id < 4; id++) {
            x.place(id, id, id);
        }
        int[] back = {2, 0, 3, 1};
        int[][] due = {{2}, {0, 2}, {0, 2, 3}, {0, 1, 2, 3}};
        for (int step = 0; step < 4; step++) {
            x.takeBack(back[step]);
            for (int position = 0; position <= step; position++) {
                CHECKS.equal("step " + step + ", position " + position, x.inTray(position), due[step][position]);
            }
        }
    }

    private static void promise7AnyNumber() {
        for (int id : NO_IDS) {
            RICH.answers("exists " + id, false, x -> x.exists(id));
        }
        for (int id : Examples.FAR_OFF) {
            FRESH.answers("in a new object " + id, false, x -> x.exists(id));
        }
        for (int id : new int[] {0, 1, 2, 3, 4, 6}) {
            RICH.answers("exists " + id, true, x -> x.exists(id));
        }
    }

    private static void promise7FirstAndLastOfTwenty() {
        FULL_TRAY.answers("the first", true, x -> x.exists(0));
        FULL_TRAY.answers("the last", true, x -> x.exists(19));
        FULL_TRAY.answers("one more", false, x -> x.exists(20));
        FULL_TRAY.answers("one less", false, x -> x.exists(-1));
    }

    private static void promise8NoSuchFragment() {
        for (int id : NO_IDS) {
            RICH.refuses("colour of " + id, NoSuchElementException.class, x -> x.colour(id));
        }
        FRESH.refuses("colour of 0", NoSuchElementException.class, x -> x.colour(0));
    }

    private static void promise8TheFirstAndTheLast() {
        FULL_TRAY.answers("colour of 0", 'a', x -> x.colour(0));
        FULL_TRAY.answers("colour of 19", 'b', x -> x.colour(19));
        RICH.answers("colour f", 'f', x -> x.colour(4));
    }

    private static void promise9NoSuchFragment() {
        for (int id : NO_IDS) {
            RICH.refuses("turn of " + id, NoSuchElementException.class, x -> x.turn(id));
        }
        FRESH.refuses("turn of 0", NoSuchElementException.class, x -> x.turn(0));
    }

    private static void promise9From0To3() {
        MosaicCatalogue x = Examples.checkered(2);
        CHECKS.equal("initially", x.turn(0), 0);
        x.place(1, 0, 0);
        for (int turn = 3; turn >= 0; turn--) {
            x.setTurn(0, turn);
            x.setTurn(1, 3 - turn);
            CHECKS.equal("in the tray", x.turn(0), turn);
            CHECKS.equal("on the grid", x.turn(1), 3 - turn);
        }
    }

    private static void promise10NoSuchFragment() {
        for (int id : NO_IDS) {
            RICH.refuses("edge of " + id, NoSuchElementException.class, x -> x.edge(id, 0));
        }
    }

    private static void promise10SideIsNotFrom0To3() {
        for (int side : Examples.NO_QUARTERS) {
            RICH.refuses("in the tray, side " + side, IllegalArgumentException.class, x -> x.edge(2, side));
            RICH.refuses("on the grid, side " + side, IllegalArgumentException.class, x -> x.edge(0, side));
        }
    }

    private static void promise10NoSuchFragmentDecidesBeforeTheSide() {
        RICH.refuses("no fragment, no side", NoSuchElementException.class, x -> x.edge(7, 4));
        RICH.refuses("-1 and -1", NoSuchElementException.class, x -> x.edge(-1, -1));
    }

    /** (side - turn) modulo 4, taken as a number from 0 to 3, for each side and turn. */
    private static void promise10SideLessTurnWrapsAround() {
        MosaicCatalogue x = new MosaicCatalogue();
        int[] edges = {2, 7, 13, 15};
        x.addFragment('a', edges[0], edges[1], edges[2], edges[3]);
        for (int turn = 0; turn <= 3; turn++) {
            x.setTurn(0, turn);
            for (int side = 0; side <= 3; side++) {
                int number = side >= turn ? side - turn : side - turn + 4;
                CHECKS.equal("side " + side + ", turn " + turn, x.edge(0, side), edges[number]);
            }
        }
    }

    private static void promise11NoSuchFragment() {
        for (int id : NO_IDS) {
            RICH.refuses("isPlaced " + id, NoSuchElementException.class, x -> x.isPlaced(id));
        }
        FRESH.refuses("isPlaced 0", NoSuchElementException.class, x -> x.isPlaced(0));
    }

    private static void promise11FirstAndLastCell() {
        MosaicCatalogue x = Examples.checkered(2);
        x.place(0, 0, 0);
        x.place(1, 7, 7);
        CHECKS.equal("cell 0", x.isPlaced(0), true);
        CHECKS.equal("cell 63", x.isPlaced(1), true);
        x.takeBack(0);
        CHECKS.equal("in the tray", x.isPlaced(0), false);
    }

    private static void promise12NoSuchFragment() {
        for (int id : NO_IDS) {
            RICH.refuses("cell of " + id, NoSuchElementException.class, x -> x.cell(id));
        }
        FRESH.refuses("cell of 0", NoSuchElementException.class, x -> x.cell(0));
    }

    private static void promise12ItIsInTheTray() {
        RICH.refuses("cell of 2", NoSuchElementException.class, x -> x.cell(2));
        RICH.refuses("cell of 6", NoSuchElementException.class, x -> x.cell(6));
        FULL_TRAY.refuses("cell of 0", NoSuchElementException.class, x -> x.cell(0));
    }

    private static void promise12EachCellFrom0To63() {
        MosaicCatalogue x = Examples.checkered(1);
        for (int cell = 0; cell < 64; cell++) {
            x.place(0, cell / 8, cell % 8);
            CHECKS.equal("cell " + cell, x.cell(0), cell);
            x.takeBack(0);
        }
    }

    private static void promise13From0To16() {
        MosaicCatalogue x = new MosaicCatalogue();
        CHECKS.equal("none", x.differentPatterns(), 0);
        for (int pattern = 0; pattern <= 15; pattern++) {
            x.addFragment('a', pattern, pattern, pattern, pattern);
            CHECKS.equal("up to " + pattern, x.differentPatterns(), pattern + 1);
        }
        x.addFragment('a', 3, 7, 11, 15);
        CHECKS.equal("no more than 16", x.differentPatterns(), 16);
        for (int pattern = 15; pattern >= 0; pattern--) {
            x.place(pattern, pattern / 8, pattern % 8);
        }
        CHECKS.equal("on the grid too", x.differentPatterns(), 16);
    }

    private static void promise13TheOrderOfBitsCounts() {
        int[][] mirrored = {{1, 8}, {2, 4}, {3, 12}, {5, 10}, {7, 14}, {11, 13}};
        for (int[] pair : mirrored) {
            MosaicCatalogue x = new MosaicCatalogue();
            x.addFragment('a', pair[0], pair[1], pair[0], pair[1]);
            CHECKS.equal(pair[0] + " and " + pair[1], x.differentPatterns(), 2);
        }
    }

    private static void promise13EachEdgeOfAFragmentCounts() {
        MosaicCatalogue x = new MosaicCatalogue();
        x.addFragment('a', 0, 1, 2, 3);
        CHECKS.equal("four", x.differentPatterns(), 4);
        x.removeFragment(0);
        CHECKS.equal("a removed one does not count", x.differentPatterns(), 0);
        x.undo();
        CHECKS.equal("it counts again", x.differentPatterns(), 4);
    }
}
