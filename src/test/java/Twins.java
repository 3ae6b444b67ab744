import java.util.ArrayList;
import java.util.List;
import java.util.function.Function;
import java.util.function.Supplier;

/**
 * Tells whether a call leaves everything that can be asked as it was. The same catalogue is made anew for each look,
 * so that a look may undo, restore or execute, and no object sees more than the 512 calls that the document promises
 * answers for.
 */
final class Twins {
    private static final int LAST_ID = 24;
    private static final int MOST_UNDOS = 9;
    private final Checks checks;
    private final Supplier<MosaicCatalogue> recipe;
    private final List<String> names = new ArrayList<>();
    private final List<Function<MosaicCatalogue, String>> looks = new ArrayList<>();
    private final List<String> before = new ArrayList<>();

    Twins(Checks checks, Supplier<MosaicCatalogue> recipe) {
        this.checks = checks;
        this.recipe = recipe;
        addLooks();
        for (Function<MosaicCatalogue, String> look : looks) {
            before.add(look.apply(recipe.get()));
        }
    }

    private void add(String name, Function<MosaicCatalogue, String> look) {
        names.add(name);
        looks.add(look);
    }

    private void addLooks() {
        add("the fragments", Twins::fragments);
        add("the grid", Twins::grid);
        add("the groups", Twins::groups);
        add("the guesses", Twins::guesses);
        add("the output", Twins::kept);
        add("what is written", Twins::written);
        for (int undos = 1; undos <= MOST_UNDOS; undos++) {
            int times = undos;
            add("what " + undos + " undos leave", x -> undone(x, times));
        }
        add("what was saved", x -> Checks.outcome(x::restore) + fragments(x));
        add("the next id", x -> Checks.outcome(() -> x.addFragment('b', 1, 2, 3, 4)) + fragments(x));
        add("the room in the input", Twins::inputRoom);
        add("the input, executed", Twins::executed);
        add("the input, gone on with", x -> Checks.outcome(() -> x.feed('l')) + executed(x));
    }

    /** The call throws exactly this exception, and nothing is changed by it. */
    void refuses(String what, Class<? extends RuntimeException> want, Function<MosaicCatalogue, ?> call) {
        answers(what, want.getSimpleName(), call);
    }

    /** The call has this answer, and nothing is changed by it. */
    void answers(String what, Object want, Function<MosaicCatalogue, ?> call) {
        MosaicCatalogue asked = recipe.get();
        checks.equal(what, Checks.outcome(() -> call.apply(asked)), want);
        same(what, () -> {
            MosaicCatalogue x = recipe.get();
            Checks.outcome(() -> call.apply(x));
            return x;
        });
    }

    /** A catalogue that was made in another way answers everything as these do. */
    void same(String what, Supplier<MosaicCatalogue> other) {
        for (int index = 0; index < looks.size(); index++) {
            checks.equal(what + " leaves " + names.get(index), looks.get(index).apply(other.get()), before.get(index));
        }
    }

    private static String fragments(MosaicCatalogue x) {
        StringBuilder text = new StringBuilder();
        text.append(x.fragmentCount()).append(',').append(x.trayCount()).append(',').append(x.differentPatterns());
        for (int index = -1; index <= 20; index++) {
            int position = index;
            text.append(',').append(Checks.outcome(() -> x.inTray(position)));
        }
        for (int id = -1; id <= LAST_ID; id++) {
            if (x.exists(id)) {
                text.append(';').append(id).append(x.colour(id)).append(x.turn(id));
                for (int side = 0; side < 4; side++) {
                    text.append('/').append(x.edge(id, side));
                }
                text.append('@').append(x.isPlaced(id) ? x.cell(id) : -1);
            }
        }
        return text.append(" undo ").append(x.undoCount()).toString();
    }

    private static String grid(MosaicCatalogue x) {
        StringBuilder text = new StringBuilder();
        for (int cell = 0; cell < 64; cell++) {
            int row = cell / 8;
            int column = cell % 8;
            text.append(x.isEmpty(row, column)).append(Checks.outcome(() -> x.fragmentAt(row, column)));
            text.append(Checks.outcome(() -> x.outlineSize(row, column))).append(',');
        }
        for (char colour = 'a'; colour <= 'f'; colour++) {
            text.append(x.colourMask(colour)).append(',');
        }
        text.append(x.placedMask()).append(',').append(x.gapMask()).append(',').append(x.gapMaskByShifts());
        text.append(',').append(x.gapCount()).append(',').append(x.joinCount()).append(',').append(x.clashCount());
        return text.toString();
    }

    private static String groups(MosaicCatalogue x) {
        StringBuilder text = new StringBuilder();
        for (int index = -1; index <= LAST_ID; index++) {
            int id = index;
            for (int side = 0; side < 4; side++) {
                int there = side;
                text.append(Checks.outcome(() -> x.fitsAt(id, there))).append(',');
            }
            text.append(Checks.outcome(() -> x.clashesOf(id))).append(',');
            text.append(Checks.outcome(() -> x.groupSize(id))).append(',');
            text.append(Checks.outcome(() -> x.groupMask(id))).append(';');
        }
        text.append(x.groupCount()).append(',').append(x.groupCountByUnions()).append(',').append(x.isConsistent());
        text.append(',').append(Checks.outcome(x::largestGroup)).append(',').append(Checks.outcome(x::meanJoins));
        text.append(',').append(Checks.outcome(x::joinFraction));
        return text.append(',').append(Checks.outcome(x::joinFractionBits)).toString();
    }

    /** Three ranks for each gap, and for the first gap what each fragment weighs there. */
    private static String guesses(MosaicCatalogue x) {
        StringBuilder text = new StringBuilder();
        long gaps = x.gapMask();
        for (int cell = 0; cell < 64; cell++) {
            int row = cell / 8;
            int column = cell % 8;
            if ((gaps >>> cell & 1) == 0) {
                continue;
            }
            text.append(';').append(Checks.outcome(() -> x.bestGuess(row, column)));
            text.append(',').append(Checks.outcome(() -> x.guessByWeight(row, column, 1)));
            text.append(',').append(Checks.outcome(() -> x.guessByWeight(row, column, 2)));
        }
        int first = Long.numberOfTrailingZeros(gaps) & 63;
        for (int index = 0; index <= LAST_ID; index++) {
            int id = index;
            text.append(';').append(Checks.outcome(() -> x.bestTurn(id, first / 8, first % 8)));
            for (int turn = 0; turn < 4; turn++) {
                int other = turn;
                text.append(',').append(Checks.outcome(() -> x.weight(id, first / 8, first % 8, other)));
            }
        }
        return text.toString();
    }

    private static String kept(MosaicCatalogue x) {
        return x.undoCount() + ", " + Checks.output(x) + ", error " + Checks.outcome(x::errorPosition) + ", failed "
                + Checks.outcome(x::failedCommand);
    }

    private static String written(MosaicCatalogue x) {
        StringBuilder text = new StringBuilder();
        for (int row = 0; row < 8; row++) {
            text.append(x.writeRow(row)).append(Checks.output(x)).append(',');
        }
        for (int index = 0; index <= LAST_ID; index++) {
            int id = index;
            text.append(Checks.outcome(() -> x.writeFragment(id))).append(Checks.output(x)).append(',');
        }
        return text.toString();
    }

    private static String undone(MosaicCatalogue x, int times) {
        StringBuilder text = new StringBuilder();
        for (int time = 0; time < times; time++) {
            text.append(Checks.outcome(x::undo)).append(',');
        }
        text.append(fragments(x)).append(" next ").append(Checks.outcome(() -> x.addFragment('c', 4, 3, 2, 1)));
        return text.toString();
    }

    private static String inputRoom(MosaicCatalogue x) {
        Object length = "none";
        int fed = 0;
        for (Object answer = length; fed <= 60 && !"IllegalStateException".equals(answer); fed++) {
            length = answer;
            answer = Checks.outcome(() -> x.feed('%'));
        }
        return fed + " fed, " + length + ", " + executed(x);
    }

    private static String executed(MosaicCatalogue x) {
        return Checks.outcome(x::execute) + ", " + kept(x) + ", " + fragments(x);
    }
}
