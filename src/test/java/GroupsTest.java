import java.util.NoSuchElementException;

/** Promises 36 to 44: groups and statistics. */
public final class GroupsTest {
    private static final Checks CHECKS = new Checks();
    private static final int[] NO_IDS = {-1, 20, Integer.MIN_VALUE, Integer.MAX_VALUE};

    public static void main(String[] arguments) {
        promises36To40Example();
        promises36To40Snake();
        promises36To40Ring();
        promise37OnceMore();
        promise40FirstFragment();
        promises38And39WrongArguments();
        promise40NothingPlaced();
        promises41And42Fractions();
        promises41And42EveryFraction();
        promise43MeanJoins();
        promise44IsConsistent();
        CHECKS.finish("GroupsTest");
    }

    /** 0 joins 1, 1 joins 2; 3 clashes with 2; 4 is alone; 5 is in the tray. */
    private static MosaicCatalogue example() {
        MosaicCatalogue x = new MosaicCatalogue();
        x.addFragment('a', 0, 5, 0, 0);
        x.addFragment('a', 0, 0, 3, 10);
        x.addFragment('b', 12, 0, 0, 1);
        x.addFragment('c', 0, 1, 0, 0);
        x.addFragment('d', 0, 0, 0, 0);
        x.addFragment('d', 0, 0, 0, 0);
        x.place(0, 6, 6);
        x.place(1, 6, 7);
        x.place(2, 7, 7);
        x.place(3, 7, 6);
        x.place(4, 0, 0);
        return x;
    }

    private static void promises36To40Example() {
        MosaicCatalogue x = example();
        CHECKS.equal("groupCount", x.groupCount(), 3);
        CHECKS.equal("groupCountByUnions", x.groupCountByUnions(), 3);
        long group = 1L << 54 | 1L << 55 | 1L << 63;
        for (int id = 0; id < 3; id++) {
            CHECKS.equal("groupSize " + id, x.groupSize(id), 3);
            CHECKS.equal("groupMask " + id, x.groupMask(id), group);
        }
        CHECKS.equal("a clash does not bind", x.groupSize(3), 1);
        CHECKS.equal("a group of its own", x.groupMask(3), 1L << 62);
        CHECKS.equal("alone", x.groupMask(4), 1L);
        CHECKS.equal("largestGroup", x.largestGroup(), 3);
        x.takeBack(1);
        CHECKS.equal("the chain is broken", x.groupCount(), 4);
        CHECKS.equal("by unions too", x.groupCountByUnions(), 4);
        CHECKS.equal("the largest is 1", x.largestGroup(), 1);
    }

    private static MosaicCatalogue checkered(int fragments) {
        MosaicCatalogue x = new MosaicCatalogue();
        for (int id = 0; id < fragments; id++) {
            int pattern = id % 2 * 15;
            x.addFragment('a', pattern, pattern, pattern, pattern);
        }
        return x;
    }

    /** All twenty fragments in one chain, placed from its ends to its middle. */
    private static void promises36To40Snake() {
        MosaicCatalogue x = checkered(20);
        int[] cells = {0, 1, 2, 3, 4, 5, 6, 7, 15, 23, 31, 39, 38, 37, 36, 35, 34, 33, 32, 40};
        for (int step = 0; step < 20; step++) {
            int index = step % 2 == 0 ? step / 2 : 19 - step / 2;
            x.place(index, cells[index] / 8, cells[index] % 8);
        }
        CHECKS.equal("snake: groupCount", x.groupCount(), 1);
        CHECKS.equal("snake: groupCountByUnions", x.groupCountByUnions(), 1);
        CHECKS.equal("snake: groupSize", x.groupSize(0), 20);
        CHECKS.equal("snake: groupMask", x.groupMask(19), x.placedMask());
        CHECKS.equal("snake: largestGroup", x.largestGroup(), 20);
        x.takeBack(9);
        CHECKS.equal("cut: groupCount", x.groupCount(), 2);
        CHECKS.equal("cut: groupCountByUnions", x.groupCountByUnions(), 2);
        CHECKS.equal("cut: groupSize", x.groupSize(0), 9);
        CHECKS.equal("cut: groupSize of the rest", x.groupSize(19), 10);
        CHECKS.equal("cut: largestGroup", x.largestGroup(), 10);
    }

    private static void promises36To40Ring() {
        MosaicCatalogue x = checkered(4);
        x.place(0, 0, 0);
        x.place(1, 0, 1);
        x.place(2, 1, 1);
        x.place(3, 1, 0);
        CHECKS.equal("ring: groupCount", x.groupCount(), 1);
        CHECKS.equal("ring: groupCountByUnions", x.groupCountByUnions(), 1);
        CHECKS.equal("ring: groupSize", x.groupSize(2), 4);
        CHECKS.equal("ring: joins", x.joinCount(), 4);
    }

    /** The sets of one call are of no account for the next. */
    private static void promise37OnceMore() {
        MosaicCatalogue x = new MosaicCatalogue();
        x.addFragment('a', 0, 0, 15, 15);
        x.addFragment('a', 0, 0, 1, 1);
        x.addFragment('a', 1, 15, 14, 0);
        x.addFragment('a', 0, 0, 0, 0);
        x.place(0, 0, 1);
        x.place(1, 0, 0);
        x.place(2, 1, 0);
        x.place(3, 1, 1);
        for (int turn = 0; turn < 4; turn++) {
            for (int other = 0; other < 4; other++) {
                x.setTurn(1, turn);
                x.setTurn(2, other);
                CHECKS.equal("turns " + turn + ", " + other, x.groupCountByUnions(), x.groupCount());
                CHECKS.equal("consistent " + turn + ", " + other, x.isConsistent(), true);
            }
        }
    }

    private static void promise40FirstFragment() {
        MosaicCatalogue x = checkered(1);
        x.place(0, 0, 0);
        CHECKS.equal("fragment 0 alone", x.largestGroup(), 1);
        CHECKS.equal("one group", x.groupCount(), 1);
    }

    private static void promises38And39WrongArguments() {
        MosaicCatalogue x = example();
        for (int id : NO_IDS) {
            CHECKS.fails("groupSize " + id, NoSuchElementException.class, x, () -> x.groupSize(id));
            CHECKS.fails("groupMask " + id, NoSuchElementException.class, x, () -> x.groupMask(id));
        }
        CHECKS.fails("groupSize in the tray", NoSuchElementException.class, x, () -> x.groupSize(5));
        CHECKS.fails("groupMask in the tray", NoSuchElementException.class, x, () -> x.groupMask(5));
    }

    private static void promise40NothingPlaced() {
        MosaicCatalogue x = checkered(2);
        CHECKS.equal("no groups", x.groupCount(), 0);
        CHECKS.equal("no groups by unions", x.groupCountByUnions(), 0);
        CHECKS.fails("largestGroup", NoSuchElementException.class, x, () -> x.largestGroup());
        CHECKS.fails("meanJoins", ArithmeticException.class, x, () -> x.meanJoins());
        CHECKS.fails("joinFraction", ArithmeticException.class, x, () -> x.joinFraction());
        CHECKS.fails("joinFractionBits", ArithmeticException.class, x, () -> x.joinFractionBits());
        CHECKS.equal("consistent", x.isConsistent(), true);
    }

    private static void promises41And42Fractions() {
        MosaicCatalogue x = example();
        CHECKS.equal("two of four", x.joinFraction(), 0.5f);
        CHECKS.equal("its bits", x.joinFractionBits(), Float.floatToIntBits(0.5f));
        x.takeBack(2);
        CHECKS.equal("one of two", x.joinFraction(), 0.5f);
        x.takeBack(3);
        CHECKS.equal("one of one", x.joinFraction(), 1.0f);
        CHECKS.equal("the bits of 1", x.joinFractionBits(), Float.floatToIntBits(1.0f));
        x.setTurn(0, 1);
        CHECKS.equal("none of one", x.joinFraction(), 0.0f);
        CHECKS.equal("the bits of 0", x.joinFractionBits(), 0);
        x.takeBack(1);
        CHECKS.fails("no pairs, but placed ones", ArithmeticException.class, x, () -> x.joinFraction());
        CHECKS.fails("no bits", ArithmeticException.class, x, () -> x.joinFractionBits());
    }

    /** A row of eight and more below it: each fraction of joins is read with its bits. */
    private static void promises41And42EveryFraction() {
        for (int placed = 2; placed <= 20; placed++) {
            for (int broken = 0; broken < placed; broken++) {
                MosaicCatalogue x = checkered(placed - broken);
                for (int index = 0; index < broken; index++) {
                    x.addFragment('f', 3, 3, 3, 3);
                }
                for (int index = 0; index < placed; index++) {
                    x.place(index, index / 7, index % 7);
                }
                float due = (float) x.joinCount() / (float) (x.joinCount() + x.clashCount());
                CHECKS.equal(placed + ", " + broken + ": fraction", x.joinFraction(), due);
                CHECKS.equal(placed + ", " + broken + ": bits", x.joinFractionBits(), Float.floatToIntBits(due));
            }
        }
    }

    private static void promise43MeanJoins() {
        MosaicCatalogue x = example();
        CHECKS.equal("twice 2 by 5", x.meanJoins(), 0.8);
        x.takeBack(4);
        CHECKS.equal("twice 2 by 4", x.meanJoins(), 1.0);
        x.takeBack(3);
        CHECKS.equal("twice 2 by 3", x.meanJoins(), 4.0 / 3.0);
        x.takeBack(1);
        CHECKS.equal("no joins", x.meanJoins(), 0.0);
        x.takeBack(0);
        x.takeBack(2);
        CHECKS.fails("nothing is placed", ArithmeticException.class, x, () -> x.meanJoins());
    }

    private static void promise44IsConsistent() {
        CHECKS.equal("empty", new MosaicCatalogue().isConsistent(), true);
        CHECKS.equal("example", example().isConsistent(), true);
        MosaicCatalogue x = checkered(20);
        for (int id = 0; id < 20; id++) {
            x.place(id, id * 3 % 8, id * 5 / 8 % 8);
            CHECKS.equal("consistent with " + (id + 1), x.isConsistent(), true);
        }
    }
}
