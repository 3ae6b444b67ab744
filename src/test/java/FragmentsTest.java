import java.util.NoSuchElementException;

/** Promises 1 to 13: a new object and the fragments. */
public final class FragmentsTest {
    private static final Checks CHECKS = new Checks();
    private static final int[] NO_IDS = {-1, 4, 20, Integer.MIN_VALUE, Integer.MAX_VALUE};

    public static void main(String[] arguments) {
        promise1NewObject();
        promise2AddFragment();
        promise2WrongArguments();
        promise2TwentyFragments();
        promise3RemoveFragment();
        promises4And5Counts();
        promise6InTray();
        promise7Exists();
        promises8To12OneFragment();
        promise10Edge();
        promise13DifferentPatterns();
        CHECKS.finish("FragmentsTest");
    }

    /** Four fragments; 1 and 2 are placed side by side. */
    private static MosaicCatalogue example() {
        MosaicCatalogue x = new MosaicCatalogue();
        x.addFragment('a', 1, 2, 3, 4);
        x.addFragment('f', 0, 15, 7, 8);
        x.addFragment('c', 9, 10, 11, 12);
        x.addFragment('b', 1, 1, 1, 1);
        x.place(1, 2, 5);
        x.place(2, 2, 6);
        return x;
    }

    private static void promise1NewObject() {
        MosaicCatalogue x = new MosaicCatalogue();
        CHECKS.equal("new fragmentCount", x.fragmentCount(), 0);
        CHECKS.equal("new trayCount", x.trayCount(), 0);
        CHECKS.equal("new placedMask", x.placedMask(), 0L);
        CHECKS.equal("new gapMask", x.gapMask(), 0L);
        CHECKS.equal("new undoCount", x.undoCount(), 0);
        CHECKS.equal("new output", Checks.output(x), "");
        for (int cell = 0; cell < 64; cell++) {
            CHECKS.equal("new isEmpty " + cell, x.isEmpty(cell / 8, cell % 8), true);
        }
        MosaicCatalogue other = new MosaicCatalogue();
        other.addFragment('a', 0, 0, 0, 0);
        CHECKS.equal("one object is not another", x.fragmentCount(), 0);
    }

    private static void promise2AddFragment() {
        MosaicCatalogue x = new MosaicCatalogue();
        CHECKS.equal("first id", x.addFragment('a', 0, 0, 0, 0), 0);
        CHECKS.equal("second id", x.addFragment('f', 15, 15, 15, 15), 1);
        CHECKS.equal("edges in their order", x.addFragment('d', 1, 2, 3, 4), 2);
        for (int side = 0; side < 4; side++) {
            CHECKS.equal("edge " + side, x.edge(2, side), side + 1);
        }
        CHECKS.equal("it is in the tray", x.isPlaced(2), false);
        CHECKS.equal("its turn is 0", x.turn(2), 0);
        x.setTurn(2, 3);
        x.removeFragment(2);
        CHECKS.equal("an id is not given again", x.addFragment('b', 5, 6, 7, 8), 3);
        CHECKS.equal("a turn is not given again", x.turn(3), 0);
        CHECKS.equal("the colour is its own", x.colour(3), 'b');
    }

    private static void promise2WrongArguments() {
        MosaicCatalogue x = example();
        for (char colour : new char[] {'`', 'g', 'A', 'F', 0, ' ', (char) 65535, (char) ('a' + 256)}) {
            CHECKS.fails("colour " + (int) colour, IllegalArgumentException.class, x,
                    () -> x.addFragment(colour, 0, 0, 0, 0));
        }
        for (int pattern : new int[] {-1, 16, Integer.MIN_VALUE, Integer.MAX_VALUE}) {
            CHECKS.fails("north " + pattern, IllegalArgumentException.class, x,
                    () -> x.addFragment('a', pattern, 0, 0, 0));
            CHECKS.fails("east " + pattern, IllegalArgumentException.class, x,
                    () -> x.addFragment('a', 0, pattern, 0, 0));
            CHECKS.fails("south " + pattern, IllegalArgumentException.class, x,
                    () -> x.addFragment('a', 0, 0, pattern, 0));
            CHECKS.fails("west " + pattern, IllegalArgumentException.class, x,
                    () -> x.addFragment('a', 0, 0, 0, pattern));
        }
        CHECKS.equal("refused calls take no id", x.addFragment('a', 0, 0, 0, 0), 4);
    }

    private static void promise2TwentyFragments() {
        MosaicCatalogue x = new MosaicCatalogue();
        for (int id = 0; id < 20; id++) {
            CHECKS.equal("id " + id, x.addFragment('a', 0, 0, 0, 0), id);
        }
        x.place(7, 0, 0);
        CHECKS.fails("the 21st", IllegalStateException.class, x, () -> x.addFragment('a', 0, 0, 0, 0));
        CHECKS.fails("a wrong 21st", IllegalArgumentException.class, x, () -> x.addFragment('g', 0, 0, 0, 0));
        CHECKS.fails("a wrong pattern", IllegalArgumentException.class, x, () -> x.addFragment('a', 0, 0, 0, 16));
        x.removeFragment(0);
        CHECKS.equal("there is room again", x.addFragment('a', 0, 0, 0, 0), 20);
        CHECKS.fails("and none again", IllegalStateException.class, x, () -> x.addFragment('a', 0, 0, 0, 0));
    }

    private static void promise3RemoveFragment() {
        MosaicCatalogue x = example();
        for (int id : NO_IDS) {
            CHECKS.fails("remove " + id, NoSuchElementException.class, x, () -> x.removeFragment(id));
        }
        CHECKS.fails("remove a placed one", IllegalStateException.class, x, () -> x.removeFragment(1));
        CHECKS.equal("placed ones are counted", x.removeFragment(0), 3);
        CHECKS.fails("remove it again", NoSuchElementException.class, x, () -> x.removeFragment(0));
        CHECKS.equal("the others keep their cells", x.fragmentAt(2, 6), 2);
        CHECKS.equal("the others keep their colours", x.colour(1), 'f');
        CHECKS.equal("the last of the tray", x.removeFragment(3), 2);
        x.takeBack(2);
        CHECKS.equal("one that was taken back", x.removeFragment(2), 1);
        CHECKS.equal("the cell stays empty", x.isEmpty(2, 6), true);
    }

    private static void promises4And5Counts() {
        MosaicCatalogue x = example();
        CHECKS.equal("fragmentCount", x.fragmentCount(), 4);
        CHECKS.equal("trayCount", x.trayCount(), 2);
        x.takeBack(2);
        CHECKS.equal("fragmentCount after takeBack", x.fragmentCount(), 4);
        CHECKS.equal("trayCount after takeBack", x.trayCount(), 3);
        x.removeFragment(2);
        CHECKS.equal("fragmentCount after removeFragment", x.fragmentCount(), 3);
        CHECKS.equal("trayCount after removeFragment", x.trayCount(), 2);
    }

    private static void promise6InTray() {
        MosaicCatalogue x = example();
        CHECKS.equal("inTray 0", x.inTray(0), 0);
        CHECKS.equal("inTray 1", x.inTray(1), 3);
        for (int position : new int[] {-1, 2, 3, Integer.MIN_VALUE, Integer.MAX_VALUE}) {
            CHECKS.fails("inTray " + position, IndexOutOfBoundsException.class, x, () -> x.inTray(position));
        }
        x.takeBack(2);
        CHECKS.equal("inTray 1 by ids, not by arrival", x.inTray(1), 2);
        CHECKS.equal("inTray 2", x.inTray(2), 3);
        MosaicCatalogue empty = new MosaicCatalogue();
        CHECKS.fails("inTray of an empty tray", IndexOutOfBoundsException.class, empty, () -> empty.inTray(0));
    }

    private static void promise7Exists() {
        MosaicCatalogue x = example();
        for (int id = 0; id < 4; id++) {
            CHECKS.equal("exists " + id, x.exists(id), true);
        }
        for (int id : NO_IDS) {
            CHECKS.equal("exists " + id, x.exists(id), false);
        }
        x.removeFragment(0);
        CHECKS.equal("exists after removal", x.exists(0), false);
        CHECKS.equal("nothing exists at first", new MosaicCatalogue().exists(0), false);
    }

    private static void promises8To12OneFragment() {
        MosaicCatalogue x = example();
        CHECKS.equal("colour 0", x.colour(0), 'a');
        CHECKS.equal("colour 1", x.colour(1), 'f');
        CHECKS.equal("turn at first", x.turn(1), 0);
        x.setTurn(1, 2);
        x.setTurn(0, 3);
        CHECKS.equal("turn of a placed one", x.turn(1), 2);
        CHECKS.equal("turn in the tray", x.turn(0), 3);
        CHECKS.equal("isPlaced 0", x.isPlaced(0), false);
        CHECKS.equal("isPlaced 1", x.isPlaced(1), true);
        CHECKS.equal("cell", x.cell(1), 21);
        CHECKS.equal("cell of its neighbour", x.cell(2), 22);
        CHECKS.fails("cell in the tray", NoSuchElementException.class, x, () -> x.cell(0));
        for (int id : NO_IDS) {
            CHECKS.fails("colour " + id, NoSuchElementException.class, x, () -> x.colour(id));
            CHECKS.fails("turn " + id, NoSuchElementException.class, x, () -> x.turn(id));
            CHECKS.fails("edge " + id, NoSuchElementException.class, x, () -> x.edge(id, 0));
            CHECKS.fails("isPlaced " + id, NoSuchElementException.class, x, () -> x.isPlaced(id));
            CHECKS.fails("cell " + id, NoSuchElementException.class, x, () -> x.cell(id));
        }
        x.removeFragment(0);
        CHECKS.fails("colour of a removed one", NoSuchElementException.class, x, () -> x.colour(0));
        x.takeBack(1);
        CHECKS.equal("isPlaced after takeBack", x.isPlaced(1), false);
    }

    private static void promise10Edge() {
        MosaicCatalogue x = new MosaicCatalogue();
        x.addFragment('e', 1, 2, 3, 4);
        int[][] due = {{1, 2, 3, 4}, {4, 1, 2, 3}, {3, 4, 1, 2}, {2, 3, 4, 1}};
        for (int turn = 0; turn < 4; turn++) {
            x.setTurn(0, turn);
            for (int side = 0; side < 4; side++) {
                CHECKS.equal("edge at " + side + " with turn " + turn, x.edge(0, side), due[turn][side]);
            }
        }
        for (int side : new int[] {-1, 4, Integer.MIN_VALUE, Integer.MAX_VALUE}) {
            CHECKS.fails("edge at " + side, IllegalArgumentException.class, x, () -> x.edge(0, side));
            CHECKS.fails("edge of none at " + side, NoSuchElementException.class, x, () -> x.edge(1, side));
        }
    }

    private static void promise13DifferentPatterns() {
        MosaicCatalogue x = new MosaicCatalogue();
        CHECKS.equal("no patterns", x.differentPatterns(), 0);
        x.addFragment('a', 1, 1, 1, 1);
        CHECKS.equal("one pattern", x.differentPatterns(), 1);
        x.addFragment('a', 2, 4, 8, 1);
        CHECKS.equal("the order of bits counts", x.differentPatterns(), 4);
        x.addFragment('b', 0, 15, 0, 15);
        CHECKS.equal("0 and 15", x.differentPatterns(), 6);
        x.place(2, 7, 7);
        x.setTurn(1, 1);
        CHECKS.equal("placed and turned ones are the same", x.differentPatterns(), 6);
        x.removeFragment(1);
        CHECKS.equal("after removal", x.differentPatterns(), 3);
        for (int from = 3; from < 15; from += 4) {
            x.addFragment('a', from, from + 1, from + 2, from + 3);
        }
        x.addFragment('c', 2, 2, 2, 2);
        CHECKS.equal("all patterns", x.differentPatterns(), 16);
    }
}
