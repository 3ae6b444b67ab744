import java.util.ArrayDeque;
import java.util.ArrayList;
import java.util.Comparator;
import java.util.Deque;
import java.util.HashSet;
import java.util.List;
import java.util.Map;
import java.util.NoSuchElementException;
import java.util.Set;
import java.util.TreeMap;
import java.util.regex.Matcher;
import java.util.regex.Pattern;

/** The document once more, told as directly as it can be and with the Java library, to compare answers with. */
final class Model {
    private static final String COMMAND = "(?:new [a-f][0-9a-f]{4}|put [0-9]{1,2}@[0-9][0-9]|take [0-9]{1,2}"
            + "|turn [0-9]{1,2}\\*[0-9]|swap [0-9]{1,2}&[0-9]{1,2}|fill|drop [0-9]{1,2})";
    private static final Pattern TEXT = Pattern.compile(COMMAND + "(?:;" + COMMAND + ")*");

    record Piece(int id, char colour, List<Integer> edges, int turn, Integer cell) {
        Piece turned(int other) {
            return new Piece(id, colour, edges, other, cell);
        }

        Piece on(Integer other) {
            return new Piece(id, colour, edges, turn, other);
        }

        int edge(int side) {
            return edges.get(Math.floorMod(side - turn, 4));
        }
    }

    record State(TreeMap<Integer, Piece> pieces, int next) {
    }

    private TreeMap<Integer, Piece> pieces = new TreeMap<>();
    private int next = 0;
    private final Deque<State> undos = new ArrayDeque<>();
    private State saved = null;
    private String input = "";
    private String output = "";
    private Integer errorPosition = null;
    private Integer failedCommand = null;
    private boolean isRunningCommands = false;

    private State state() {
        return new State(new TreeMap<>(pieces), next);
    }

    private void become(State state) {
        pieces = new TreeMap<>(state.pieces);
        next = state.next;
    }

    private void beforeChange() {
        if (!isRunningCommands) {
            undos.addLast(state());
            if (undos.size() > 8) {
                undos.removeFirst();
            }
        }
    }

    private static void need(boolean holds, RuntimeException otherwise) {
        if (!holds) {
            throw otherwise;
        }
    }

    private Piece piece(int id) {
        need(pieces.containsKey(id), new NoSuchElementException());
        return pieces.get(id);
    }

    private Piece placed(int id) {
        need(piece(id).cell != null, new NoSuchElementException());
        return piece(id);
    }

    private static int cellOf(int row, int column) {
        need(row >= 0 && row <= 7 && column >= 0 && column <= 7, new IndexOutOfBoundsException());
        return 8 * row + column;
    }

    private static void needQuarter(int value) {
        need(value >= 0 && value <= 3, new IllegalArgumentException());
    }

    private Piece onCell(int cell) {
        return pieces.values().stream().filter(p -> p.cell != null && p.cell == cell).findFirst().orElse(null);
    }

    private Piece neighbour(int cell, int side) {
        int row = cell / 8 + (side == 0 ? -1 : side == 2 ? 1 : 0);
        int column = cell % 8 + (side == 3 ? -1 : side == 1 ? 1 : 0);
        return row < 0 || row > 7 || column < 0 || column > 7 ? null : onCell(8 * row + column);
    }

    private boolean joins(Piece piece, int side) {
        Piece other = neighbour(piece.cell, side);
        return other != null && (piece.edge(side) ^ other.edge((side + 2) % 4)) == 15;
    }

    private int joinsOf(Piece piece) {
        int joins = 0;
        for (int side = 0; side < 4; side++) {
            joins += joins(piece, side) ? 1 : 0;
        }
        return joins;
    }

    private boolean isGap(int cell) {
        boolean near = false;
        for (int side = 0; side < 4; side++) {
            near |= neighbour(cell, side) != null;
        }
        return near && onCell(cell) == null;
    }

    private int gapOf(int row, int column) {
        int cell = cellOf(row, column);
        need(isGap(cell), new UnsupportedOperationException());
        return cell;
    }

    private List<Piece> tray() {
        return pieces.values().stream().filter(p -> p.cell == null).toList();
    }

    private List<Piece> onGrid() {
        return pieces.values().stream().filter(p -> p.cell != null).toList();
    }

    int addFragment(char colour, int north, int east, int south, int west) {
        need("abcdef".indexOf(colour) >= 0, new IllegalArgumentException());
        for (int pattern : new int[] {north, east, south, west}) {
            need(pattern >= 0 && pattern <= 15, new IllegalArgumentException());
        }
        need(pieces.size() < 20, new IllegalStateException());
        beforeChange();
        pieces.put(next, new Piece(next, colour, List.of(north, east, south, west), 0, null));
        return next++;
    }

    int removeFragment(int fragment) {
        need(piece(fragment).cell == null, new IllegalStateException());
        beforeChange();
        pieces.remove(fragment);
        return pieces.size();
    }

    int fragmentCount() {
        return pieces.size();
    }

    int trayCount() {
        return tray().size();
    }

    int inTray(int position) {
        need(position >= 0 && position < trayCount(), new IndexOutOfBoundsException());
        return tray().get(position).id;
    }

    boolean exists(int fragment) {
        return pieces.containsKey(fragment);
    }

    char colour(int fragment) {
        return piece(fragment).colour;
    }

    int turn(int fragment) {
        return piece(fragment).turn;
    }

    int edge(int fragment, int side) {
        Piece piece = piece(fragment);
        needQuarter(side);
        return piece.edge(side);
    }

    boolean isPlaced(int fragment) {
        return piece(fragment).cell != null;
    }

    int cell(int fragment) {
        return placed(fragment).cell;
    }

    int differentPatterns() {
        Set<Integer> patterns = new HashSet<>();
        pieces.values().forEach(p -> patterns.addAll(p.edges));
        return patterns.size();
    }

    int place(int fragment, int row, int column) {
        Piece piece = piece(fragment);
        int cell = cellOf(row, column);
        need(piece.cell == null && onCell(cell) == null, new IllegalStateException());
        beforeChange();
        pieces.put(fragment, piece.on(cell));
        return joinsOf(piece(fragment));
    }

    int takeBack(int fragment) {
        Piece piece = piece(fragment);
        need(piece.cell != null, new IllegalStateException());
        int joins = joinsOf(piece);
        beforeChange();
        pieces.put(fragment, piece.on(null));
        return joins;
    }

    int setTurn(int fragment, int turn) {
        Piece piece = piece(fragment);
        needQuarter(turn);
        beforeChange();
        pieces.put(fragment, piece.turned(turn));
        return piece.turn;
    }

    int swap(int first, int second) {
        Piece one = piece(first);
        Piece other = piece(second);
        need(first != second, new IllegalArgumentException());
        need(one.cell != null && other.cell != null, new IllegalStateException());
        beforeChange();
        pieces.put(first, one.on(other.cell));
        pieces.put(second, other.on(one.cell));
        return joinCount();
    }

    int placeGuess(int row, int column) {
        int gap = gapOf(row, column);
        Piece piece = piece(bestGuess(row, column));
        beforeChange();
        pieces.put(piece.id, piece.turned(topTurn(piece, gap)).on(gap));
        return piece.id;
    }

    int fill() {
        beforeChange();
        int placed = 0;
        while (true) {
            int bestGap = -1;
            Piece best = null;
            for (int cell = 0; cell < 64; cell++) {
                if (isGap(cell) && !tray().isEmpty()) {
                    Piece guess = guesses(cell).get(0);
                    int bound = best == null ? 0 : topWeight(best, bestGap);
                    if (topWeight(guess, cell) > bound) {
                        best = guess;
                        bestGap = cell;
                    }
                }
            }
            if (best == null) {
                return placed;
            }
            pieces.put(best.id, best.turned(topTurn(best, bestGap)).on(bestGap));
            placed++;
        }
    }

    boolean isEmpty(int row, int column) {
        return onCell(cellOf(row, column)) == null;
    }

    int fragmentAt(int row, int column) {
        Piece piece = onCell(cellOf(row, column));
        need(piece != null, new NoSuchElementException());
        return piece.id;
    }

    private long mask(java.util.function.IntPredicate holds) {
        long mask = 0;
        for (int cell = 0; cell < 64; cell++) {
            mask |= holds.test(cell) ? 1L << cell : 0;
        }
        return mask;
    }

    long placedMask() {
        return mask(cell -> onCell(cell) != null);
    }

    long colourMask(char colour) {
        need("abcdef".indexOf(colour) >= 0, new IllegalArgumentException());
        return mask(cell -> onCell(cell) != null && onCell(cell).colour == colour);
    }

    long gapMask() {
        return mask(this::isGap);
    }

    int gapCount() {
        int gaps = 0;
        for (int cell = 0; cell < 64; cell++) {
            gaps += isGap(cell) ? 1 : 0;
        }
        return gaps;
    }

    int joinCount() {
        return onGrid().stream().mapToInt(this::joinsOf).sum() / 2;
    }

    int clashCount() {
        return onGrid().stream().mapToInt(p -> clashesOf(p.id)).sum() / 2;
    }

    boolean fitsAt(int fragment, int side) {
        Piece piece = placed(fragment);
        needQuarter(side);
        return joins(piece, side);
    }

    int clashesOf(int fragment) {
        Piece piece = placed(fragment);
        int clashes = 0;
        for (int side = 0; side < 4; side++) {
            clashes += neighbour(piece.cell, side) != null && !joins(piece, side) ? 1 : 0;
        }
        return clashes;
    }

    int outlineSize(int row, int column) {
        int gap = gapOf(row, column);
        int size = 0;
        for (int side = 0; side < 4; side++) {
            size += neighbour(gap, side) != null ? 1 : 0;
        }
        return size;
    }

    private int weightFor(Piece piece, int gap, int turn) {
        int weight = 0;
        for (int side = 0; side < 4; side++) {
            Piece other = neighbour(gap, side);
            if (other != null) {
                boolean fits = (piece.turned(turn).edge(side) ^ other.edge((side + 2) % 4)) == 15;
                weight += (fits ? 4 : -3) + (other.colour == piece.colour ? 1 : 0);
            }
        }
        return weight;
    }

    private int topTurn(Piece piece, int gap) {
        int best = 0;
        for (int turn = 1; turn < 4; turn++) {
            best = weightFor(piece, gap, turn) > weightFor(piece, gap, best) ? turn : best;
        }
        return best;
    }

    private int topWeight(Piece piece, int gap) {
        return weightFor(piece, gap, topTurn(piece, gap));
    }

    private List<Piece> guesses(int gap) {
        List<Piece> guesses = new ArrayList<>(tray());
        guesses.sort(Comparator.comparingInt((Piece p) -> -topWeight(p, gap)).thenComparingInt(Piece::id));
        return guesses;
    }

    int weight(int fragment, int row, int column, int turn) {
        Piece piece = piece(fragment);
        cellOf(row, column);
        needQuarter(turn);
        need(piece.cell == null, new IllegalStateException());
        return weightFor(piece, gapOf(row, column), turn);
    }

    int bestTurn(int fragment, int row, int column) {
        Piece piece = piece(fragment);
        cellOf(row, column);
        need(piece.cell == null, new IllegalStateException());
        return topTurn(piece, gapOf(row, column));
    }

    int bestGuess(int row, int column) {
        return guessByWeight(row, column, 0);
    }

    int guessByWeight(int row, int column, int rank) {
        List<Piece> guesses = guesses(gapOf(row, column));
        need(rank >= 0 && rank < guesses.size(), new NoSuchElementException());
        return guesses.get(rank).id;
    }

    private void collect(Piece piece, Set<Integer> cells) {
        if (cells.add(piece.cell)) {
            for (int side = 0; side < 4; side++) {
                if (joins(piece, side)) {
                    collect(neighbour(piece.cell, side), cells);
                }
            }
        }
    }

    private Set<Integer> group(Piece piece) {
        Set<Integer> cells = new HashSet<>();
        collect(piece, cells);
        return cells;
    }

    int groupCount() {
        Set<Set<Integer>> groups = new HashSet<>();
        onGrid().forEach(p -> groups.add(group(p)));
        return groups.size();
    }

    int groupSize(int fragment) {
        return group(placed(fragment)).size();
    }

    long groupMask(int fragment) {
        return mask(group(placed(fragment))::contains);
    }

    int largestGroup() {
        return onGrid().stream().mapToInt(p -> group(p).size()).max().orElseThrow();
    }

    float joinFraction() {
        need(joinCount() + clashCount() > 0, new ArithmeticException());
        return (float) joinCount() / (float) (joinCount() + clashCount());
    }

    int joinFractionBits() {
        return Float.floatToIntBits(joinFraction());
    }

    double meanJoins() {
        need(!onGrid().isEmpty(), new ArithmeticException());
        return 2.0 * joinCount() / onGrid().size();
    }

    boolean isConsistent() {
        return true;
    }

    int writeRow(int row) {
        cellOf(row, 0);
        StringBuilder text = new StringBuilder();
        for (int cell = 8 * row; cell < 8 * row + 8; cell++) {
            text.append(onCell(cell) != null ? onCell(cell).colour : isGap(cell) ? '+' : '.');
        }
        output = text.toString();
        return output.length();
    }

    int writeFragment(int fragment) {
        Piece piece = piece(fragment);
        output = "" + piece.colour;
        for (int side = 0; side < 4; side++) {
            output += Integer.toHexString(piece.edge(side));
        }
        if (piece.cell != null) {
            output += "@" + piece.cell / 8 + piece.cell % 8;
        }
        return output.length();
    }

    char outputCharacter(int index) {
        need(index >= 0 && index < output.length(), new IndexOutOfBoundsException());
        return output.charAt(index);
    }

    int feed(char character) {
        need(input.length() < 60, new IllegalStateException());
        input += character;
        return input.length();
    }

    static boolean isWellFormed(String text) {
        return TEXT.matcher(text).matches();
    }

    static int errorPositionOf(String text) {
        for (int length = 1; length <= text.length(); length++) {
            Matcher matcher = TEXT.matcher(text.substring(0, length));
            if (!matcher.matches() && !matcher.hitEnd()) {
                return length - 1;
            }
        }
        return text.length();
    }

    int execute() {
        String text = input;
        input = "";
        if (!isWellFormed(text)) {
            errorPosition = errorPositionOf(text);
            throw new IllegalArgumentException();
        }
        State before = state();
        String[] commands = text.split(";");
        isRunningCommands = true;
        for (int index = 0; index < commands.length; index++) {
            try {
                perform(commands[index]);
            } catch (RuntimeException refused) {
                isRunningCommands = false;
                become(before);
                failedCommand = index;
                throw new UnsupportedOperationException();
            }
        }
        isRunningCommands = false;
        State after = state();
        become(before);
        beforeChange();
        become(after);
        return commands.length;
    }

    private void perform(String command) {
        String[] words = command.split("[ @*&]");
        Map<String, Runnable> doers = Map.of(
                "new", () -> addFragment(words[1].charAt(0), hex(words[1], 1), hex(words[1], 2), hex(words[1], 3),
                        hex(words[1], 4)),
                "put", () -> place(Integer.parseInt(words[1]), hex(words[2], 0), hex(words[2], 1)),
                "take", () -> takeBack(Integer.parseInt(words[1])),
                "turn", () -> setTurn(Integer.parseInt(words[1]), Integer.parseInt(words[2])),
                "swap", () -> swap(Integer.parseInt(words[1]), Integer.parseInt(words[2])),
                "fill", this::fill,
                "drop", () -> removeFragment(Integer.parseInt(words[1])));
        doers.get(words[0]).run();
    }

    private static int hex(String text, int index) {
        return Character.digit(text.charAt(index), 16);
    }

    int errorPosition() {
        need(errorPosition != null, new NoSuchElementException());
        return errorPosition;
    }

    int failedCommand() {
        need(failedCommand != null, new NoSuchElementException());
        return failedCommand;
    }

    int undo() {
        need(!undos.isEmpty(), new IllegalStateException());
        become(undos.removeLast());
        return undos.size();
    }

    int undoCount() {
        return undos.size();
    }

    int save() {
        saved = state();
        return pieces.size();
    }

    int restore() {
        need(saved != null, new IllegalStateException());
        become(saved);
        undos.clear();
        return pieces.size();
    }
}
