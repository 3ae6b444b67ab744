import java.util.function.Supplier;

/** Long runs of calls on fresh objects, each answer compared with that of Model. The runs are always the same. */
public final class ModelTest {
    private static final Checks CHECKS = new Checks();
    private static final int RUNS = 1500;
    private static final int MOST_CALLS = 512;
    // A text of commands, fed sign by sign, and then the whole grid.
    private static final int LAST_CALLS = 115;
    private static final int[] PATTERNS = {0, 15, 5, 10, 0, 15, 3, 12, 1, 14};
    private static final int[] STRANGE = {-1, 8, 20, 100, Integer.MIN_VALUE, Integer.MAX_VALUE};

    private final int run;
    private long seed;
    private int calls;
    private MosaicCatalogue x;
    private Model model;
    private int strangeness;
    private int area;

    private ModelTest(int run) {
        this.run = run;
        this.seed = run * 7919L + 17;
        this.x = new MosaicCatalogue();
        this.model = new Model();
        this.strangeness = run % 3 == 0 ? 4 : 25;
        this.area = 2 + run % 7;
    }

    public static void main(String[] arguments) {
        for (int run = 0; run < RUNS; run++) {
            new ModelTest(run).go();
        }
        CHECKS.finish("ModelTest");
    }

    private int below(int bound) {
        seed = seed * 6364136223846793005L + 1442695040888963407L;
        return (int) ((seed >>> 33) % bound);
    }

    private boolean isStrange() {
        return below(strangeness) == 0;
    }

    private int strange() {
        return STRANGE[below(STRANGE.length)];
    }

    /** Mostly the id of a fragment that is there. */
    private int id() {
        if (isStrange()) {
            return strange();
        }
        int id = below(40);
        for (int step = 0; step < 60 && !model.exists(id); step++) {
            id = (id + 1) % 60;
        }
        return id;
    }

    private int line() {
        return isStrange() ? strange() : below(area) + (run % 2 == 0 ? 0 : 8 - area);
    }

    private int quarter() {
        return isStrange() ? (below(2) == 0 ? 4 : strange()) : below(4);
    }

    private int pattern() {
        return isStrange() ? (below(2) == 0 ? 16 : strange()) : PATTERNS[below(PATTERNS.length)];
    }

    private char colour() {
        return isStrange() ? (char) ("`gA\0".charAt(below(4)) + 256 * below(2)) : (char) ('a' + below(6));
    }

    private void same(String call, Supplier<?> got, Supplier<?> want) {
        calls++;
        CHECKS.equal("run " + run + ", call " + calls + ": " + call, Checks.outcome(got), Checks.outcome(want));
    }

    private void go() {
        int adds = 4 + below(16);
        for (int add = 0; add < adds; add++) {
            addFragment();
        }
        while (calls < MOST_CALLS - LAST_CALLS) {
            int kind = below(10);
            if (kind < 4) {
                change();
            } else if (kind == 4) {
                commands();
            } else if (kind == 5) {
                undoAndSaving();
            } else if (kind == 6) {
                fragmentQuery();
            } else if (kind == 7) {
                gridQuery();
            } else if (kind == 8) {
                guess();
            } else {
                groupQuery();
            }
        }
        CHECKS.equal("run " + run + " in the end", wholeGrid(x::fragmentAt), wholeGrid(model::fragmentAt));
    }

    private interface CellQuery {
        Object ask(int row, int column);
    }

    private static String wholeGrid(CellQuery query) {
        StringBuilder text = new StringBuilder();
        for (int cell = 0; cell < 64; cell++) {
            int row = cell / 8;
            int column = cell % 8;
            text.append(Checks.outcome(() -> query.ask(row, column))).append(' ');
        }
        return text.toString();
    }

    private void addFragment() {
        char colour = colour();
        int north = pattern();
        int east = pattern();
        int south = pattern();
        int west = pattern();
        same("addFragment " + colour + north + "," + east + "," + south + "," + west,
                () -> x.addFragment(colour, north, east, south, west),
                () -> model.addFragment(colour, north, east, south, west));
    }

    private void change() {
        int id = id();
        int other = id();
        int row = line();
        int column = line();
        int turn = quarter();
        switch (below(12)) {
            case 0 -> addFragment();
            case 1 -> same("removeFragment " + id, () -> x.removeFragment(id), () -> model.removeFragment(id));
            case 2, 3 -> same("takeBack " + id, () -> x.takeBack(id), () -> model.takeBack(id));
            case 4, 5 -> same("setTurn " + id + " " + turn, () -> x.setTurn(id, turn), () -> model.setTurn(id, turn));
            case 6 -> same("swap " + id + " " + other, () -> x.swap(id, other), () -> model.swap(id, other));
            case 7, 8 -> same("placeGuess " + row + " " + column, () -> x.placeGuess(row, column),
                    () -> model.placeGuess(row, column));
            case 9 -> {
                if (below(3) == 0) {
                    same("fill", x::fill, model::fill);
                }
            }
            default -> same("place " + id + " " + row + " " + column, () -> x.place(id, row, column),
                    () -> model.place(id, row, column));
        }
    }

    private String command() {
        int id = isStrange() ? below(100) : Math.min(99, Math.max(0, id()));
        String number = below(4) == 0 && id < 10 ? "0" + id : "" + id;
        switch (below(8)) {
            case 0:
                return "new " + (char) ('a' + below(6)) + String.format("%04x", below(65536));
            case 1, 2:
                return "put " + number + "@" + (isStrange() ? below(10) : below(area)) + below(area);
            case 3:
                return "take " + number;
            case 4:
                return "turn " + number + "*" + (isStrange() ? below(10) : below(4));
            case 5:
                return "swap " + number + "&" + below(20);
            case 6:
                return "fill";
            default:
                return "drop " + number;
        }
    }

    /** One to four commands, now and then with a wrong, missing or surplus character. */
    private void commands() {
        StringBuilder text = new StringBuilder(command());
        for (int more = below(4); more > 0; more--) {
            text.append(';').append(command());
        }
        if (below(3) == 0) {
            int index = below(text.length());
            char sign = "0aft;@*& \u00e9x9g".charAt(below(13));
            switch (below(4)) {
                case 0 -> text.setCharAt(index, sign);
                case 1 -> text.deleteCharAt(index);
                case 2 -> text.insert(index, sign);
                default -> text.setLength(index);
            }
        }
        for (int index = 0; index < text.length(); index++) {
            char sign = text.charAt(index);
            same("feed " + sign, () -> x.feed(sign), () -> model.feed(sign));
        }
        same("execute " + text, x::execute, model::execute);
        same("errorPosition", x::errorPosition, model::errorPosition);
        same("failedCommand", x::failedCommand, model::failedCommand);
    }

    private void undoAndSaving() {
        switch (below(8)) {
            case 0 -> same("save", x::save, model::save);
            case 1 -> {
                if (below(4) == 0) {
                    same("restore", x::restore, model::restore);
                }
            }
            case 2 -> same("undoCount", x::undoCount, model::undoCount);
            default -> {
                for (int times = 1 + below(4); times > 0; times--) {
                    same("undo", x::undo, model::undo);
                }
            }
        }
    }

    private void fragmentQuery() {
        int id = id();
        int side = quarter();
        int position = isStrange() ? strange() : below(12);
        switch (below(13)) {
            case 0 -> same("fragmentCount", x::fragmentCount, model::fragmentCount);
            case 1 -> same("trayCount", x::trayCount, model::trayCount);
            case 2 -> same("inTray " + position, () -> x.inTray(position), () -> model.inTray(position));
            case 3 -> same("exists " + position, () -> x.exists(position), () -> model.exists(position));
            case 4 -> same("colour " + id, () -> x.colour(id), () -> model.colour(id));
            case 5 -> same("turn " + id, () -> x.turn(id), () -> model.turn(id));
            case 6 -> same("edge " + id + " " + side, () -> x.edge(id, side), () -> model.edge(id, side));
            case 7 -> same("isPlaced " + id, () -> x.isPlaced(id), () -> model.isPlaced(id));
            case 8 -> same("cell " + id, () -> x.cell(id), () -> model.cell(id));
            case 9 -> same("differentPatterns", x::differentPatterns, model::differentPatterns);
            case 10 -> same("writeFragment " + id, () -> x.writeFragment(id), () -> model.writeFragment(id));
            case 11 -> {
                int row = line();
                same("writeRow " + row, () -> x.writeRow(row), () -> model.writeRow(row));
            }
            default -> {
                for (int index = -1; index < 9; index++) {
                    int place = index;
                    same("outputCharacter " + place, () -> x.outputCharacter(place),
                            () -> model.outputCharacter(place));
                }
            }
        }
    }

    private void gridQuery() {
        int id = id();
        int side = quarter();
        int row = line();
        int column = line();
        char colour = colour();
        String cell = " " + row + " " + column;
        switch (below(12)) {
            case 0 -> same("isEmpty" + cell, () -> x.isEmpty(row, column), () -> model.isEmpty(row, column));
            case 1 -> same("fragmentAt" + cell, () -> x.fragmentAt(row, column), () -> model.fragmentAt(row, column));
            case 2 -> same("placedMask", x::placedMask, model::placedMask);
            case 3 -> same("colourMask " + colour, () -> x.colourMask(colour), () -> model.colourMask(colour));
            case 4 -> same("gapMask", x::gapMask, model::gapMask);
            case 5 -> same("gapMaskByShifts", x::gapMaskByShifts, model::gapMask);
            case 6 -> same("gapCount", x::gapCount, model::gapCount);
            case 7 -> same("joinCount", x::joinCount, model::joinCount);
            case 8 -> same("clashCount", x::clashCount, model::clashCount);
            case 9 -> same("fitsAt " + id + " " + side, () -> x.fitsAt(id, side), () -> model.fitsAt(id, side));
            case 10 -> same("clashesOf " + id, () -> x.clashesOf(id), () -> model.clashesOf(id));
            default -> same("outlineSize" + cell, () -> x.outlineSize(row, column),
                    () -> model.outlineSize(row, column));
        }
    }

    private void guess() {
        int id = id();
        int turn = quarter();
        int row = line();
        int column = line();
        int rank = isStrange() ? strange() : below(8);
        String cell = " " + row + " " + column;
        switch (below(5)) {
            case 0, 1 -> same("weight " + id + cell + " " + turn, () -> x.weight(id, row, column, turn),
                    () -> model.weight(id, row, column, turn));
            case 2 -> same("bestTurn " + id + cell, () -> x.bestTurn(id, row, column),
                    () -> model.bestTurn(id, row, column));
            case 3 -> same("bestGuess" + cell, () -> x.bestGuess(row, column), () -> model.bestGuess(row, column));
            default -> same("guessByWeight" + cell + " " + rank, () -> x.guessByWeight(row, column, rank),
                    () -> model.guessByWeight(row, column, rank));
        }
    }

    private void groupQuery() {
        int id = id();
        switch (below(9)) {
            case 0 -> same("groupCount", x::groupCount, model::groupCount);
            case 1 -> same("groupCountByUnions", x::groupCountByUnions, model::groupCount);
            case 2 -> same("groupSize " + id, () -> x.groupSize(id), () -> model.groupSize(id));
            case 3 -> same("groupMask " + id, () -> x.groupMask(id), () -> model.groupMask(id));
            case 4 -> same("largestGroup", x::largestGroup, model::largestGroup);
            case 5 -> same("joinFraction", x::joinFraction, model::joinFraction);
            case 6 -> same("joinFractionBits", x::joinFractionBits, model::joinFractionBits);
            case 7 -> same("meanJoins", x::meanJoins, model::meanJoins);
            default -> same("isConsistent", x::isConsistent, model::isConsistent);
        }
    }
}
