import java.util.NoSuchElementException;

/** Promises 36 to 44: a test for each sentence that names a boundary case. */
public final class GroupsBoundaryTest {
    private static final Checks CHECKS = new Checks();
    private static final Twins FRESH = new Twins(CHECKS, Examples::fresh);
    private static final Twins RICH = new Twins(CHECKS, Examples::rich);
    private static final Twins FULL_TRAY = new Twins(CHECKS, Examples::fullTray);
    private static final Twins ALL_PLACED = new Twins(CHECKS, Examples::allPlaced);
    private static final Twins SCATTERED = new Twins(CHECKS, GroupsBoundaryTest::scattered);
    // In Examples.rich: 5 was removed, 7 is the id that is given next.
    private static final int[] NO_IDS = {-1, 5, 7, 8, 20, 64, Integer.MIN_VALUE, Integer.MAX_VALUE, 1 << 16};
    private static final int[] CHAIN = {0, 1, 2, 3, 4, 5, 6, 7, 15, 23, 31, 39, 38, 37, 36, 35, 34, 33, 32, 40};

    public static void main(String[] arguments) throws IllegalAccessException {
        CHECKS.runPromises(GroupsBoundaryTest.class);
    }

    /** Twenty fragments, none of which is beside another: each on a cell of the same colour of a chessboard. */
    private static MosaicCatalogue scattered() {
        MosaicCatalogue x = Examples.fullTray();
        for (int id = 0; id < 20; id++) {
            int row = id / 4;
            x.place(id, row, 2 * (id % 4) + row % 2);
        }
        return x;
    }

    /** A chain of fragments that meet those before and behind them alone; the first of them are joined. */
    private static MosaicCatalogue chain(int length, int joins) {
        MosaicCatalogue x = new MosaicCatalogue();
        int pattern = 5;
        for (int index = 0; index < length; index++) {
            if (index > 0 && index <= joins) {
                pattern = 15 - pattern;
            }
            x.place(x.addFragment('a', pattern, pattern, pattern, pattern), CHAIN[index] / 8, CHAIN[index] % 8);
        }
        return x;
    }

    private static void promise36NoGroups() {
        FRESH.answers("a new object", 0, x -> x.groupCount());
        FULL_TRAY.answers("an empty grid", 0, x -> x.groupCount());
    }

    private static void promise36From1To20Groups() {
        ALL_PLACED.answers("one", 1, x -> x.groupCount());
        SCATTERED.answers("twenty", 20, x -> x.groupCount());
        for (int joins = 0; joins <= 19; joins++) {
            CHECKS.equal(joins + " joins", chain(20, joins).groupCount(), 20 - joins);
        }
    }

    private static void promise36WithoutJoinsAGroupOfItsOwn() {
        CHECKS.equal("one alone", chain(1, 0).groupCount(), 1);
        CHECKS.equal("two that clash", chain(2, 0).groupCount(), 2);
        CHECKS.equal("two that join", chain(2, 1).groupCount(), 1);
    }

    /** The ids of two groups take turns, so that no group is met at one stretch. */
    private static MosaicCatalogue twoGroups() {
        MosaicCatalogue x = Examples.checkered(12);
        int[] cells = {0, 63, 62, 1, 2, 61, 60, 3, 4, 59, 58, 5};
        for (int id = 0; id < 12; id++) {
            x.place(id, cells[id] / 8, cells[id] % 8);
        }
        return x;
    }

    private static void promise36GroupsWhoseIdsTakeTurns() {
        CHECKS.equal("two", twoGroups().groupCount(), 2);
        CHECKS.equal("two by unions", twoGroups().groupCountByUnions(), 2);
        CHECKS.equal("six cells each", twoGroups().groupMask(0), 63L);
        CHECKS.equal("the largest", twoGroups().largestGroup(), 6);
    }

    private static void promise37NoGroups() {
        FRESH.answers("a new object", 0, x -> x.groupCountByUnions());
        FULL_TRAY.answers("an empty grid", 0, x -> x.groupCountByUnions());
    }

    private static void promise37From1To20Groups() {
        ALL_PLACED.answers("one, with more joins than it takes", 1, x -> x.groupCountByUnions());
        SCATTERED.answers("twenty", 20, x -> x.groupCountByUnions());
        for (int joins = 0; joins <= 19; joins++) {
            CHECKS.equal(joins + " joins", chain(20, joins).groupCountByUnions(), 20 - joins);
        }
    }

    private static void promise37FirstAndLastCell() {
        CHECKS.equal("cell 0 alone", Examples.alike(0, 0, 0, 0, 0).groupCountByUnions(), 1);
        CHECKS.equal("cell 63 alone", Examples.alike(0, 0, 0, 0, 63).groupCountByUnions(), 1);
        CHECKS.equal("cells 62 and 63", Examples.alike(0, 15, 0, 0, 62, 63).groupCountByUnions(), 1);
        CHECKS.equal("cells 55 and 63", Examples.alike(15, 0, 0, 0, 55, 63).groupCountByUnions(), 1);
        CHECKS.equal("cells 7 and 8", Examples.alike(0, 15, 0, 0, 7, 8).groupCountByUnions(), 2);
        CHECKS.equal("cells 0 and 56", Examples.alike(15, 0, 0, 0, 0, 56).groupCountByUnions(), 2);
    }

    /** The sets that a call unites are of no account for the next. */
    private static void promise37AskedAgainAfterAChange() {
        MosaicCatalogue x = new MosaicCatalogue();
        x.place(x.addFragment('a', 0, 0, 0, 0), 0, 0);
        x.place(x.addFragment('a', 15, 15, 15, 15), 0, 1);
        x.place(x.addFragment('a', 0, 0, 0, 0), 1, 1);
        x.place(x.addFragment('a', 3, 15, 3, 3), 1, 0);
        CHECKS.equal("joined around three corners", x.groupCountByUnions(), 1);
        CHECKS.equal("once more", x.groupCountByUnions(), 1);
        x.setTurn(3, 1);
        CHECKS.equal("3 is turned away", x.groupCountByUnions(), 2);
        x.takeBack(1);
        CHECKS.equal("and 1 is taken back", x.groupCountByUnions(), 3);
        x.undo();
        x.undo();
        CHECKS.equal("as it was", x.groupCountByUnions(), 1);
    }

    private static void promise38NoSuchFragment() {
        for (int id : NO_IDS) {
            RICH.refuses("groupSize of " + id, NoSuchElementException.class, x -> x.groupSize(id));
        }
        FRESH.refuses("groupSize of 0", NoSuchElementException.class, x -> x.groupSize(0));
    }

    private static void promise38ItIsInTheTray() {
        RICH.refuses("2", NoSuchElementException.class, x -> x.groupSize(2));
        FULL_TRAY.refuses("0", NoSuchElementException.class, x -> x.groupSize(0));
    }

    private static void promise38From1To20Fragments() {
        for (int joins = 0; joins <= 19; joins++) {
            MosaicCatalogue x = chain(20, joins);
            CHECKS.equal("the first with " + joins, x.groupSize(0), joins + 1);
            CHECKS.equal("the last of its group", x.groupSize(joins), joins + 1);
            CHECKS.equal("the last with " + joins, x.groupSize(19), joins == 19 ? 20 : 1);
        }
    }

    private static void promise39NoSuchFragment() {
        for (int id : NO_IDS) {
            RICH.refuses("groupMask of " + id, NoSuchElementException.class, x -> x.groupMask(id));
        }
        FRESH.refuses("groupMask of 0", NoSuchElementException.class, x -> x.groupMask(0));
    }

    private static void promise39ItIsInTheTray() {
        RICH.refuses("6", NoSuchElementException.class, x -> x.groupMask(6));
        FULL_TRAY.refuses("19", NoSuchElementException.class, x -> x.groupMask(19));
    }

    private static void promise39FirstAndLastBit() {
        CHECKS.equal("cell 0", Examples.alike(0, 0, 0, 0, 0).groupMask(0), 1L);
        CHECKS.equal("cell 63", Examples.alike(0, 0, 0, 0, 63).groupMask(0), Long.MIN_VALUE);
        CHECKS.equal("cells 62 and 63", Examples.alike(0, 15, 0, 0, 62, 63).groupMask(1), 3L << 62);
        CHECKS.equal("not cells 7 and 8", Examples.alike(0, 15, 0, 0, 7, 8).groupMask(1), 1L << 8);
    }

    private static void promise39OneAndTwentyCells() {
        long all = 0;
        MosaicCatalogue x = scattered();
        for (int id = 0; id < 20; id++) {
            CHECKS.equal("its own cell " + id, x.groupMask(id), 1L << x.cell(id));
            all |= x.groupMask(id);
        }
        CHECKS.equal("together", all, x.placedMask());
        MosaicCatalogue y = Examples.allPlaced();
        for (int id = 0; id < 20; id++) {
            CHECKS.equal("all of them " + id, y.groupMask(id), y.placedMask());
        }
    }

    private static void promise40NoFragmentIsPlaced() {
        FRESH.refuses("a new object", NoSuchElementException.class, x -> x.largestGroup());
        FULL_TRAY.refuses("all in the tray", NoSuchElementException.class, x -> x.largestGroup());
        Twins takenBack = new Twins(CHECKS, () -> {
            MosaicCatalogue x = Examples.alike(0, 0, 0, 0, 63);
            x.takeBack(0);
            return x;
        });
        takenBack.refuses("the last one was taken back", NoSuchElementException.class, x -> x.largestGroup());
    }

    private static void promise40From1To20Fragments() {
        SCATTERED.answers("one", 1, x -> x.largestGroup());
        ALL_PLACED.answers("twenty", 20, x -> x.largestGroup());
        for (int joins = 0; joins <= 19; joins++) {
            CHECKS.equal("with " + joins, chain(20, joins).largestGroup(), joins + 1);
        }
        CHECKS.equal("one fragment alone", chain(1, 0).largestGroup(), 1);
    }

    private static void promise40TheLargestIsNotTheFirst() {
        MosaicCatalogue x = chain(20, 19);
        x.setTurn(4, 1);
        x.takeBack(3);
        CHECKS.equal("the later one", x.largestGroup(), 16);
        x.place(3, 0, 3);
        x.takeBack(18);
        CHECKS.equal("the former one", x.largestGroup(), 18);
    }

    private static Twins apart(int... cells) {
        return new Twins(CHECKS, () -> Examples.alike(0, 15, 0, 15, cells));
    }

    private static void promise41NoSuchPairs() {
        FRESH.refuses("a new object", ArithmeticException.class, x -> x.joinFraction());
        FULL_TRAY.refuses("an empty grid", ArithmeticException.class, x -> x.joinFraction());
        SCATTERED.refuses("twenty apart", ArithmeticException.class, x -> x.joinFraction());
        apart(27).refuses("one alone", ArithmeticException.class, x -> x.joinFraction());
        apart(7, 8).refuses("across the border", ArithmeticException.class, x -> x.joinFraction());
        apart(0, 9).refuses("corner to corner", ArithmeticException.class, x -> x.joinFraction());
    }

    private static void promise41From0To1() {
        for (int pairs = 1; pairs <= 19; pairs++) {
            for (int joins = 0; joins <= pairs; joins++) {
                CHECKS.equal(joins + " of " + pairs, chain(pairs + 1, joins).joinFraction(),
                        (float) joins / (float) pairs);
            }
        }
        ALL_PLACED.answers("31 of 31", 1.0f, x -> x.joinFraction());
    }

    private static void promise42NoSuchPairs() {
        FRESH.refuses("a new object", ArithmeticException.class, x -> x.joinFractionBits());
        FULL_TRAY.refuses("an empty grid", ArithmeticException.class, x -> x.joinFractionBits());
        SCATTERED.refuses("twenty apart", ArithmeticException.class, x -> x.joinFractionBits());
        apart(63).refuses("one alone", ArithmeticException.class, x -> x.joinFractionBits());
        apart(7, 8).refuses("across the border", ArithmeticException.class, x -> x.joinFractionBits());
    }

    private static void promise42From0To1() {
        for (int pairs = 1; pairs <= 19; pairs++) {
            for (int joins = 0; joins <= pairs; joins++) {
                CHECKS.equal(joins + " of " + pairs, chain(pairs + 1, joins).joinFractionBits(),
                        Float.floatToIntBits((float) joins / (float) pairs));
            }
        }
        CHECKS.equal("0.0", chain(2, 0).joinFractionBits(), 0);
        CHECKS.equal("1.0", chain(2, 1).joinFractionBits(), 0x3F800000);
    }

    /** A block of five rows of four, in which some fragments are turned into ones that clash. */
    private static void promise42UpTo31Pairs() {
        for (int seed = 1; seed < 200; seed++) {
            MosaicCatalogue x = new MosaicCatalogue();
            for (int id = 0; id < 20; id++) {
                int pattern = (seed * (id + 3) * (id + 7) / 5) % 3 == 0 ? 6 : 15 * ((id / 4 + id) % 2);
                x.place(x.addFragment('a', pattern, pattern, pattern, pattern), id / 4, id % 4);
            }
            CHECKS.equal("31 pairs", x.joinCount() + x.clashCount(), 31);
            float due = (float) x.joinCount() / 31f;
            CHECKS.equal("fraction " + x.joinCount(), x.joinFraction(), due);
            CHECKS.equal("bits " + x.joinCount(), x.joinFractionBits(), Float.floatToIntBits(due));
        }
    }

    private static void promise43NoFragmentIsPlaced() {
        FRESH.refuses("a new object", ArithmeticException.class, x -> x.meanJoins());
        FULL_TRAY.refuses("all in the tray", ArithmeticException.class, x -> x.meanJoins());
    }

    private static void promise43From0To3() {
        SCATTERED.answers("no joins", 0.0, x -> x.meanJoins());
        ALL_PLACED.answers("twice 31 by 20", 3.1, x -> x.meanJoins());
        CHECKS.equal("one alone", chain(1, 0).meanJoins(), 0.0);
        for (int joins = 0; joins <= 19; joins++) {
            CHECKS.equal("twice " + joins + " by 20", chain(20, joins).meanJoins(), 2 * joins / 20.0);
        }
        for (int length = 1; length <= 20; length++) {
            CHECKS.equal("chain of " + length, chain(length, length - 1).meanJoins(),
                    (double) (2 * (length - 1)) / (double) length);
        }
    }

    private static void promise44EmptyAndFull() {
        FRESH.answers("a new object", true, x -> x.isConsistent());
        FULL_TRAY.answers("an empty grid", true, x -> x.isConsistent());
        ALL_PLACED.answers("an empty tray", true, x -> x.isConsistent());
        SCATTERED.answers("twenty groups", true, x -> x.isConsistent());
        RICH.answers("some of each", true, x -> x.isConsistent());
    }
}
