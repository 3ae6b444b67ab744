import java.util.NoSuchElementException;

/** A catalogue for the restoration of a mosaic: a tray of fragments and the grid they are placed on. */
public final class MosaicCatalogue {
    private static final int SIZE = 8;
    private static final int CELLS = 64;
    private static final int SIDES = 4;
    private static final int EAST = 1;
    private static final int SOUTH = 2;
    private static final int LAST_LINE = 7;
    private static final int LAST_SIDE = 3;
    private static final int LAST_TURN = 3;
    private static final int LAST_PATTERN = 15;
    private static final int MOST_FRAGMENTS = 20;
    private static final int MOST_UNDOS = 8;
    private static final int MOST_INPUT = 60;
    private static final int MOST_OUTPUT = 8;
    private static final int NONE = -1;

    // A change answers 0 or more; one that is refused answers why, and execute and the face tell it in their own ways.
    private static final int NO_SUCH_FRAGMENT = -1;
    private static final int OUTSIDE_GRID = -2;
    private static final int WRONG_ARGUMENT = -3;
    private static final int WRONG_STATE = -4;

    private static final long FIRST_COLUMN = 0x0101010101010101L;
    private static final long LAST_COLUMN = 0x8080808080808080L;
    private static final int[] ROW_STEPS = {-1, 0, 1, 0};
    private static final int[] COLUMN_STEPS = {0, 1, 0, -1};
    private static final Keyword[] KEYWORDS = Keyword.values();

    private final Board board = new Board();
    private final Board saved = new Board();
    private boolean isSaved;
    private final History history = new History();
    private final Guesses guesses = new Guesses();
    private final Groups groups = new Groups();
    private final Script script = new Script();
    private final char[] output = new char[MOST_OUTPUT];
    private int outputLength;
    private int keptPosition = NONE;
    private int keptCommand = NONE;

    public MosaicCatalogue() {
    }

    // Fragments

    public int addFragment(char colour, int north, int east, int south, int west)
            throws IllegalArgumentException, IllegalStateException {
        history.prepare(board);
        return settle(board.addToTray(colour, north, east, south, west));
    }

    public int removeFragment(int fragment) throws NoSuchElementException, IllegalStateException {
        history.prepare(board);
        return settle(board.dropFromTray(fragment));
    }

    public int fragmentCount() {
        return board.count;
    }

    public int trayCount() {
        return board.count - board.countOnGrid();
    }

    public int inTray(int position) throws IndexOutOfBoundsException {
        Fragment piece = board.trayPiece(position);
        if (piece == null) {
            throw new IndexOutOfBoundsException("no such position in the tray");
        }
        return piece.id;
    }

    public boolean exists(int fragment) {
        return board.find(fragment) != null;
    }

    public char colour(int fragment) throws NoSuchElementException {
        return pieceOf(fragment).colour;
    }

    public int turn(int fragment) throws NoSuchElementException {
        return pieceOf(fragment).turn;
    }

    public int edge(int fragment, int side) throws NoSuchElementException, IllegalArgumentException {
        Fragment piece = pieceOf(fragment);
        checkSide(side);
        return piece.edgeAt(side);
    }

    public boolean isPlaced(int fragment) throws NoSuchElementException {
        return pieceOf(fragment).isOnGrid();
    }

    public int cell(int fragment) throws NoSuchElementException {
        return gridPieceOf(fragment).cell;
    }

    public int differentPatterns() {
        int seen = 0;
        for (int index = 0; index < board.count; index++) {
            for (int side = 0; side < SIDES; side++) {
                seen |= 1 << board.fragments[index].edgeAt(side);
            }
        }
        return Integer.bitCount(seen);
    }

    // Placing

    public int place(int fragment, int row, int column)
            throws NoSuchElementException, IndexOutOfBoundsException, IllegalStateException {
        history.prepare(board);
        return settle(board.putDown(fragment, row, column));
    }

    public int takeBack(int fragment) throws NoSuchElementException, IllegalStateException {
        history.prepare(board);
        return settle(board.pickUp(fragment));
    }

    public int setTurn(int fragment, int turn) throws NoSuchElementException, IllegalArgumentException {
        history.prepare(board);
        return settle(board.turnTo(fragment, turn));
    }

    public int swap(int first, int second)
            throws NoSuchElementException, IllegalArgumentException, IllegalStateException {
        history.prepare(board);
        return settle(board.exchange(first, second));
    }

    public int placeGuess(int row, int column)
            throws IndexOutOfBoundsException, UnsupportedOperationException, NoSuchElementException {
        Fragment piece = guessFor(gapOf(row, column), 0);
        history.prepare(board);
        guesses.putGuess(board, piece);
        return settle(piece.id);
    }

    public int fill() {
        history.prepare(board);
        return settle(guesses.fillGaps(board));
    }

    // The grid

    public boolean isEmpty(int row, int column) throws IndexOutOfBoundsException {
        return board.grid[cellOf(row, column)] == null;
    }

    public int fragmentAt(int row, int column) throws IndexOutOfBoundsException, NoSuchElementException {
        Fragment piece = board.grid[cellOf(row, column)];
        if (piece == null) {
            throw new NoSuchElementException("the cell is empty");
        }
        return piece.id;
    }

    public long placedMask() {
        long mask = 0;
        for (int cell = 0; cell < CELLS; cell++) {
            if (board.grid[cell] != null) {
                mask |= bit(cell);
            }
        }
        return mask;
    }

    public long colourMask(char colour) throws IllegalArgumentException {
        if (!isColour(colour)) {
            throw new IllegalArgumentException("a colour is from a to f");
        }
        long mask = 0;
        for (int cell = 0; cell < CELLS; cell++) {
            Fragment piece = board.grid[cell];
            if (piece != null && piece.colour == colour) {
                mask |= bit(cell);
            }
        }
        return mask;
    }

    public long gapMask() {
        long mask = 0;
        for (int cell = 0; cell < CELLS; cell++) {
            if (board.isGap(cell)) {
                mask |= bit(cell);
            }
        }
        return mask;
    }

    public long gapMaskByShifts() {
        long placed = placedMask();
        long near = placed << SIZE | placed >>> SIZE;
        // A step beyond the border column would come out in the next row.
        near |= (placed & ~LAST_COLUMN) << 1 | (placed & ~FIRST_COLUMN) >>> 1;
        return near & ~placed;
    }

    public int gapCount() {
        return Long.bitCount(gapMask());
    }

    public int joinCount() {
        return board.countPairs(true);
    }

    public int clashCount() {
        return board.countPairs(false);
    }

    public boolean fitsAt(int fragment, int side) throws NoSuchElementException, IllegalArgumentException {
        Fragment piece = gridPieceOf(fragment);
        checkSide(side);
        return board.meets(piece, side, true);
    }

    public int clashesOf(int fragment) throws NoSuchElementException {
        return board.countMeetings(gridPieceOf(fragment), false);
    }

    public int outlineSize(int row, int column) throws IndexOutOfBoundsException, UnsupportedOperationException {
        return board.countNeighbours(gapOf(row, column));
    }

    // Guesses

    public int weight(int fragment, int row, int column, int turn)
            throws NoSuchElementException, IndexOutOfBoundsException, IllegalArgumentException,
            IllegalStateException, UnsupportedOperationException {
        Fragment piece = pieceOf(fragment);
        int cell = cellOf(row, column);
        if (!isUpTo(turn, LAST_TURN)) {
            throw new IllegalArgumentException("a turn is from 0 to 3");
        }
        checkInTray(piece);
        checkGap(cell);
        guesses.lookAt(board, cell);
        return guesses.weightOf(piece, turn);
    }

    public int bestTurn(int fragment, int row, int column)
            throws NoSuchElementException, IndexOutOfBoundsException, IllegalStateException,
            UnsupportedOperationException {
        Fragment piece = pieceOf(fragment);
        int cell = cellOf(row, column);
        checkInTray(piece);
        checkGap(cell);
        guesses.lookAt(board, cell);
        return guesses.turnFor(piece);
    }

    public int bestGuess(int row, int column)
            throws IndexOutOfBoundsException, UnsupportedOperationException, NoSuchElementException {
        return guessFor(gapOf(row, column), 0).id;
    }

    public int guessByWeight(int row, int column, int rank)
            throws IndexOutOfBoundsException, UnsupportedOperationException, NoSuchElementException {
        return guessFor(gapOf(row, column), rank).id;
    }

    // Groups and statistics

    public int groupCount() {
        return groups.countBySearch(board);
    }

    public int groupCountByUnions() {
        return groups.countByUnions(board);
    }

    public int groupSize(int fragment) throws NoSuchElementException {
        return Long.bitCount(groupMask(fragment));
    }

    public long groupMask(int fragment) throws NoSuchElementException {
        return groups.search(board, gridPieceOf(fragment));
    }

    public int largestGroup() throws NoSuchElementException {
        int largest = groups.sizeOfLargest(board);
        if (largest == 0) {
            throw new NoSuchElementException("no fragment is placed");
        }
        return largest;
    }

    public float joinFraction() throws ArithmeticException {
        int joins = board.countPairs(true);
        int pairs = joins + board.countPairs(false);
        if (pairs == 0) {
            throw new ArithmeticException("there are no neighbouring fragments");
        }
        return (float) joins / (float) pairs;
    }

    public int joinFractionBits() throws ArithmeticException {
        return bitsOfFraction(joinFraction());
    }

    public double meanJoins() throws ArithmeticException {
        int placed = board.countOnGrid();
        if (placed == 0) {
            throw new ArithmeticException("no fragment is placed");
        }
        return (double) (2 * board.countPairs(true)) / (double) placed;
    }

    public boolean isConsistent() {
        return gapMask() == gapMaskByShifts() && groupCount() == groupCountByUnions();
    }

    // Output, commands, undo and saved state

    public int writeRow(int row) throws IndexOutOfBoundsException {
        int first = cellOf(row, 0);
        for (int column = 0; column < SIZE; column++) {
            output[column] = signOf(first + column);
        }
        outputLength = SIZE;
        return outputLength;
    }

    public int writeFragment(int fragment) throws NoSuchElementException {
        Fragment piece = pieceOf(fragment);
        output[0] = piece.colour;
        for (int side = 0; side < SIDES; side++) {
            output[1 + side] = hexadecimalDigit(piece.edgeAt(side));
        }
        outputLength = 1 + SIDES;
        if (piece.isOnGrid()) {
            output[5] = '@';
            output[6] = hexadecimalDigit(piece.cell / SIZE);
            output[7] = hexadecimalDigit(piece.cell % SIZE);
            outputLength = 8;
        }
        return outputLength;
    }

    public char outputCharacter(int index) throws IndexOutOfBoundsException {
        if (index < 0 || index >= outputLength) {
            throw new IndexOutOfBoundsException("no such character in the output");
        }
        return output[index];
    }

    public int feed(char character) throws IllegalStateException {
        if (script.isFull()) {
            throw new IllegalStateException("the input buffer is full");
        }
        return script.append(character);
    }

    public int execute() throws IllegalArgumentException, UnsupportedOperationException {
        boolean isWellFormed = script.readAll();
        script.clear();
        if (!isWellFormed) {
            keptPosition = script.position;
            throw new IllegalArgumentException("the text is malformed");
        }
        history.prepare(board);
        for (int index = 0; index < script.commandCount; index++) {
            if (perform(script.commands[index]) < 0) {
                board.copyFrom(history.prepared());
                keptCommand = index;
                throw new UnsupportedOperationException("a command failed");
            }
        }
        return settle(script.commandCount);
    }

    public int errorPosition() throws NoSuchElementException {
        if (keptPosition == NONE) {
            throw new NoSuchElementException("no error position was kept");
        }
        return keptPosition;
    }

    public int failedCommand() throws NoSuchElementException {
        if (keptCommand == NONE) {
            throw new NoSuchElementException("no failed command was kept");
        }
        return keptCommand;
    }

    public int undo() throws IllegalStateException {
        if (history.count == 0) {
            throw new IllegalStateException("there is no change to undo");
        }
        board.copyFrom(history.takeLatest());
        return history.count;
    }

    public int undoCount() {
        return history.count;
    }

    public int save() {
        saved.copyFrom(board);
        isSaved = true;
        return board.count;
    }

    public int restore() throws IllegalStateException {
        if (!isSaved) {
            throw new IllegalStateException("nothing was saved");
        }
        board.copyFrom(saved);
        history.clear();
        return board.count;
    }

    // What several calls share

    /** Keeps the change that gave this answer as one that can be undone, or throws if it was refused. */
    private int settle(int answer) {
        throwIfRefused(answer);
        history.keep();
        return answer;
    }

    private static void throwIfRefused(int answer) {
        switch (answer) {
            case NO_SUCH_FRAGMENT:
                throw new NoSuchElementException("no such fragment");
            case OUTSIDE_GRID:
                throw new IndexOutOfBoundsException("rows and columns are from 0 to 7");
            case WRONG_ARGUMENT:
                throw new IllegalArgumentException("an argument is not allowed");
            case WRONG_STATE:
                throw new IllegalStateException("the fragments do not allow it");
            default:
                break;
        }
    }

    private Fragment pieceOf(int fragment) {
        Fragment piece = board.find(fragment);
        if (piece == null) {
            throw new NoSuchElementException("no such fragment");
        }
        return piece;
    }

    private Fragment gridPieceOf(int fragment) {
        Fragment piece = pieceOf(fragment);
        if (!piece.isOnGrid()) {
            throw new NoSuchElementException("the fragment is in the tray");
        }
        return piece;
    }

    private static int cellOf(int row, int column) {
        if (!isUpTo(row, LAST_LINE) || !isUpTo(column, LAST_LINE)) {
            throw new IndexOutOfBoundsException("rows and columns are from 0 to 7");
        }
        return SIZE * row + column;
    }

    private int gapOf(int row, int column) {
        int cell = cellOf(row, column);
        checkGap(cell);
        return cell;
    }

    private void checkGap(int cell) {
        if (!board.isGap(cell)) {
            throw new UnsupportedOperationException("the cell is not a gap");
        }
    }

    private Fragment guessFor(int gap, int rank) {
        guesses.lookAt(board, gap);
        Fragment piece = guesses.pieceOfRank(board, rank);
        if (piece == null) {
            throw new NoSuchElementException("the tray has no such guess");
        }
        return piece;
    }

    private static void checkSide(int side) {
        if (!isUpTo(side, LAST_SIDE)) {
            throw new IllegalArgumentException("a side is from 0 to 3");
        }
    }

    private static void checkInTray(Fragment piece) {
        if (piece.isOnGrid()) {
            throw new IllegalStateException("the fragment is placed");
        }
    }

    /** The sign of a cell in the output of a row. */
    private char signOf(int cell) {
        Fragment piece = board.grid[cell];
        if (piece != null) {
            return piece.colour;
        }
        return board.isGap(cell) ? '+' : '.';
    }

    private int perform(Command command) {
        int[] values = command.values;
        switch (command.keyword) {
            case NEW:
                return board.addToTray((char) values[0], values[1], values[2], values[3], values[4]);
            case PUT:
                return board.putDown(values[0], values[2], values[3]);
            case TAKE:
                return board.pickUp(values[0]);
            case TURN:
                return board.turnTo(values[0], values[2]);
            case SWAP:
                return board.exchange(values[0], values[2]);
            case DROP:
                return board.dropFromTray(values[0]);
            default:
                return guesses.fillGaps(board);
        }
    }

    private static boolean isUpTo(int value, int last) {
        return value >= 0 && value <= last;
    }

    private static boolean isColour(char sign) {
        return sign >= 'a' && sign <= 'f';
    }

    private static int opposite(int side) {
        return (side + 2) & LAST_SIDE;
    }

    private static long bit(int cell) {
        return 1L << cell;
    }

    private static char hexadecimalDigit(int value) {
        return (char) (value < 10 ? '0' + value : 'a' + value - 10);
    }

    private static int digitValue(char sign) {
        return sign >= '0' && sign <= '9' ? sign - '0' : NONE;
    }

    /** The bits of a number from 0 to 1, by arithmetic, as LANGUAGE.md leaves out Float.floatToIntBits. */
    private static int bitsOfFraction(float fraction) {
        if (fraction <= 0) {
            return 0;
        }
        float scaled = fraction;
        int exponent = 127;
        for (int step = 0; step < 126 && scaled < 1; step++) {
            scaled = scaled * 2;
            exponent--;
        }
        return exponent << 23 | (int) ((scaled - 1) * 8388608);
    }

    /** A fragment, in the tray while its cell is NONE. */
    private static final class Fragment {
        private int id;
        private char colour;
        private final int[] edges = new int[SIDES];
        private int turn;
        private int cell = NONE;

        boolean isOnGrid() {
            return cell != NONE;
        }

        int edgeAt(int side) {
            return edges[(side - turn) & LAST_SIDE];
        }

        void copyFrom(Fragment other) {
            id = other.id;
            colour = other.colour;
            System.arraycopy(other.edges, 0, edges, 0, SIDES);
            turn = other.turn;
            cell = other.cell;
        }
    }

    /** Everything that changes can change: the fragments, where they are, and the id that is given next. */
    private static final class Board {
        // The first count fragments are there, in ascending order of ids; the others wait to be used again.
        private final Fragment[] fragments = new Fragment[MOST_FRAGMENTS];
        private final Fragment[] grid = new Fragment[CELLS];
        private int count;
        private int nextId;

        Board() {
            for (int index = 0; index < MOST_FRAGMENTS; index++) {
                fragments[index] = new Fragment();
            }
        }

        void copyFrom(Board other) {
            count = other.count;
            nextId = other.nextId;
            for (int cell = 0; cell < CELLS; cell++) {
                grid[cell] = null;
            }
            for (int index = 0; index < count; index++) {
                Fragment piece = fragments[index];
                piece.copyFrom(other.fragments[index]);
                if (piece.isOnGrid()) {
                    grid[piece.cell] = piece;
                }
            }
        }

        private int indexOf(int id) {
            for (int index = 0; index < count; index++) {
                if (fragments[index].id == id) {
                    return index;
                }
            }
            return NONE;
        }

        /** The fragment with an id, or null. */
        Fragment find(int id) {
            int index = indexOf(id);
            return index == NONE ? null : fragments[index];
        }

        int countOnGrid() {
            int placed = 0;
            for (int index = 0; index < count; index++) {
                if (fragments[index].isOnGrid()) {
                    placed++;
                }
            }
            return placed;
        }

        /** The fragment at a position of the tray, or null. */
        Fragment trayPiece(int position) {
            int before = 0;
            for (int index = 0; index < count; index++) {
                if (fragments[index].isOnGrid()) {
                    continue;
                }
                if (before == position) {
                    return fragments[index];
                }
                before++;
            }
            return null;
        }

        int addToTray(char colour, int north, int east, int south, int west) {
            if (!isColour(colour) || !isUpTo(north, LAST_PATTERN) || !isUpTo(east, LAST_PATTERN)
                    || !isUpTo(south, LAST_PATTERN) || !isUpTo(west, LAST_PATTERN)) {
                return WRONG_ARGUMENT;
            }
            if (count >= MOST_FRAGMENTS) {
                return WRONG_STATE;
            }
            Fragment piece = fragments[count];
            piece.id = nextId;
            piece.colour = colour;
            piece.edges[0] = north;
            piece.edges[1] = east;
            piece.edges[2] = south;
            piece.edges[3] = west;
            piece.turn = 0;
            piece.cell = NONE;
            count++;
            nextId++;
            return piece.id;
        }

        int dropFromTray(int id) {
            int index = indexOf(id);
            if (index == NONE) {
                return NO_SUCH_FRAGMENT;
            }
            Fragment piece = fragments[index];
            if (piece.isOnGrid()) {
                return WRONG_STATE;
            }
            count--;
            for (int later = index; later < count; later++) {
                fragments[later] = fragments[later + 1];
            }
            fragments[count] = piece;
            return count;
        }

        int putDown(int id, int row, int column) {
            Fragment piece = find(id);
            if (piece == null) {
                return NO_SUCH_FRAGMENT;
            }
            if (!isUpTo(row, LAST_LINE) || !isUpTo(column, LAST_LINE)) {
                return OUTSIDE_GRID;
            }
            int cell = SIZE * row + column;
            if (piece.isOnGrid() || grid[cell] != null) {
                return WRONG_STATE;
            }
            lay(piece, cell);
            return countMeetings(piece, true);
        }

        void lay(Fragment piece, int cell) {
            piece.cell = cell;
            grid[cell] = piece;
        }

        int pickUp(int id) {
            Fragment piece = find(id);
            if (piece == null) {
                return NO_SUCH_FRAGMENT;
            }
            if (!piece.isOnGrid()) {
                return WRONG_STATE;
            }
            int joins = countMeetings(piece, true);
            grid[piece.cell] = null;
            piece.cell = NONE;
            return joins;
        }

        int turnTo(int id, int turn) {
            Fragment piece = find(id);
            if (piece == null) {
                return NO_SUCH_FRAGMENT;
            }
            if (!isUpTo(turn, LAST_TURN)) {
                return WRONG_ARGUMENT;
            }
            int previous = piece.turn;
            piece.turn = turn;
            return previous;
        }

        int exchange(int firstId, int secondId) {
            Fragment first = find(firstId);
            Fragment second = find(secondId);
            if (first == null || second == null) {
                return NO_SUCH_FRAGMENT;
            }
            if (first == second) {
                return WRONG_ARGUMENT;
            }
            if (!first.isOnGrid() || !second.isOnGrid()) {
                return WRONG_STATE;
            }
            int cell = first.cell;
            lay(first, second.cell);
            lay(second, cell);
            return countPairs(true);
        }

        /** The fragment on the neighbour of a cell at a side, or null. */
        Fragment neighbour(int cell, int side) {
            int row = cell / SIZE + ROW_STEPS[side];
            int column = cell % SIZE + COLUMN_STEPS[side];
            boolean isOutside = row < 0 || row > LAST_LINE || column < 0 || column > LAST_LINE;
            return isOutside ? null : grid[SIZE * row + column];
        }

        int countNeighbours(int cell) {
            int neighbours = 0;
            for (int side = 0; side < SIDES; side++) {
                if (neighbour(cell, side) != null) {
                    neighbours++;
                }
            }
            return neighbours;
        }

        boolean isGap(int cell) {
            return grid[cell] == null && countNeighbours(cell) > 0;
        }

        /** Whether a placed fragment meets another at a side, with edges that fit or with edges that do not. */
        boolean meets(Fragment piece, int side, boolean fitting) {
            Fragment other = neighbour(piece.cell, side);
            if (other == null) {
                return false;
            }
            boolean fits = piece.edgeAt(side) == LAST_PATTERN - other.edgeAt(opposite(side));
            return fits == fitting;
        }

        int countMeetings(Fragment piece, boolean fitting) {
            int meetings = 0;
            for (int side = 0; side < SIDES; side++) {
                if (meets(piece, side, fitting)) {
                    meetings++;
                }
            }
            return meetings;
        }

        /** The number of joins on the grid, or of clashes. */
        int countPairs(boolean fitting) {
            int pairs = 0;
            for (int index = 0; index < count; index++) {
                Fragment piece = fragments[index];
                if (!piece.isOnGrid()) {
                    continue;
                }
                // Each pair is seen from its western or northern fragment alone.
                if (meets(piece, EAST, fitting)) {
                    pairs++;
                }
                if (meets(piece, SOUTH, fitting)) {
                    pairs++;
                }
            }
            return pairs;
        }
    }

    /** Guesses for one gap at a time: its outline is looked at once and then held against many fragments. */
    private static final class Guesses {
        // At a side without a fragment the wanted pattern is NONE.
        private final int[] wanted = new int[SIDES];
        private final char[] colours = new char[SIDES];
        private final int[] weights = new int[MOST_FRAGMENTS];
        private int gap;

        void lookAt(Board board, int cell) {
            gap = cell;
            for (int side = 0; side < SIDES; side++) {
                Fragment other = board.neighbour(cell, side);
                if (other == null) {
                    wanted[side] = NONE;
                } else {
                    wanted[side] = LAST_PATTERN - other.edgeAt(opposite(side));
                    colours[side] = other.colour;
                }
            }
        }

        int weightOf(Fragment piece, int turn) {
            int weight = 0;
            for (int side = 0; side < SIDES; side++) {
                if (wanted[side] == NONE) {
                    continue;
                }
                weight += piece.edges[(side - turn) & LAST_SIDE] == wanted[side] ? 4 : -3;
                if (piece.colour == colours[side]) {
                    weight++;
                }
            }
            return weight;
        }

        int turnFor(Fragment piece) {
            int best = 0;
            int bestWeight = weightOf(piece, 0);
            for (int turn = 1; turn <= LAST_TURN; turn++) {
                int weight = weightOf(piece, turn);
                if (weight > bestWeight) {
                    best = turn;
                    bestWeight = weight;
                }
            }
            return best;
        }

        private int topWeight(Fragment piece) {
            int top = weightOf(piece, 0);
            for (int turn = 1; turn <= LAST_TURN; turn++) {
                top = Math.max(top, weightOf(piece, turn));
            }
            return top;
        }

        /** The fragment of the tray with a rank among the guesses for the gap, or null. */
        Fragment pieceOfRank(Board board, int rank) {
            for (int index = 0; index < board.count; index++) {
                weights[index] = topWeight(board.fragments[index]);
            }
            for (int index = 0; index < board.count; index++) {
                if (!board.fragments[index].isOnGrid() && rankOf(board, index) == rank) {
                    return board.fragments[index];
                }
            }
            return null;
        }

        private int rankOf(Board board, int index) {
            int rank = 0;
            for (int other = 0; other < board.count; other++) {
                boolean isBefore = weights[other] > weights[index]
                        || (weights[other] == weights[index] && other < index);
                if (isBefore && !board.fragments[other].isOnGrid()) {
                    rank++;
                }
            }
            return rank;
        }

        /** Places a fragment on the gap at its best turn. */
        void putGuess(Board board, Fragment piece) {
            piece.turn = turnFor(piece);
            board.lay(piece, gap);
        }

        /** The greatest weight in the tray for the gap, if it is above a bound; else the bound. */
        private int topWeightAbove(int bound, Board board) {
            int top = bound;
            for (int index = 0; index < board.count; index++) {
                if (!board.fragments[index].isOnGrid()) {
                    top = Math.max(top, topWeight(board.fragments[index]));
                }
            }
            return top;
        }

        /** The gap with the greatest weight above 0, or NONE. */
        private int bestGap(Board board) {
            int best = NONE;
            int bestWeight = 0;
            for (int cell = 0; cell < CELLS; cell++) {
                if (!board.isGap(cell)) {
                    continue;
                }
                lookAt(board, cell);
                int weight = topWeightAbove(bestWeight, board);
                if (weight > bestWeight) {
                    best = cell;
                    bestWeight = weight;
                }
            }
            return best;
        }

        /** Fills gaps and returns the number of fragments that were placed. */
        int fillGaps(Board board) {
            for (int placed = 0; placed < MOST_FRAGMENTS; placed++) {
                int cell = bestGap(board);
                if (cell == NONE) {
                    return placed;
                }
                lookAt(board, cell);
                Fragment piece = pieceOfRank(board, 0);
                if (piece == null) {
                    return placed;
                }
                putGuess(board, piece);
            }
            return MOST_FRAGMENTS;
        }
    }

    /** Groups of joined fragments, by search and by unions. */
    private static final class Groups {
        private final Fragment[] queue = new Fragment[MOST_FRAGMENTS];
        private final int[] parents = new int[CELLS];

        /** The cells of the group of a placed fragment. */
        long search(Board board, Fragment start) {
            long reached = bit(start.cell);
            queue[0] = start;
            int length = 1;
            for (int next = 0; next < length; next++) {
                Fragment piece = queue[next];
                for (int side = 0; side < SIDES; side++) {
                    Fragment other = board.neighbour(piece.cell, side);
                    if (other == null || !board.meets(piece, side, true)) {
                        continue;
                    }
                    if ((reached & bit(other.cell)) == 0 && length < MOST_FRAGMENTS) {
                        reached |= bit(other.cell);
                        queue[length] = other;
                        length++;
                    }
                }
            }
            return reached;
        }

        int countBySearch(Board board) {
            long reached = 0;
            int found = 0;
            for (int index = 0; index < board.count; index++) {
                Fragment piece = board.fragments[index];
                if (piece.isOnGrid() && (reached & bit(piece.cell)) == 0) {
                    reached |= search(board, piece);
                    found++;
                }
            }
            return found;
        }

        int sizeOfLargest(Board board) {
            int largest = 0;
            for (int index = 0; index < board.count; index++) {
                Fragment piece = board.fragments[index];
                if (piece.isOnGrid()) {
                    largest = Math.max(largest, Long.bitCount(search(board, piece)));
                }
            }
            return largest;
        }

        int countByUnions(Board board) {
            for (int cell = 0; cell < CELLS; cell++) {
                parents[cell] = cell;
            }
            int sets = board.countOnGrid();
            for (int index = 0; index < board.count; index++) {
                Fragment piece = board.fragments[index];
                if (piece.isOnGrid()) {
                    sets -= unite(board, piece, EAST) + unite(board, piece, SOUTH);
                }
            }
            return sets;
        }

        /** Unites the sets at a join; returns by how many sets there are fewer then. */
        private int unite(Board board, Fragment piece, int side) {
            Fragment other = board.neighbour(piece.cell, side);
            if (other == null || !board.meets(piece, side, true)) {
                return 0;
            }
            int root = rootOf(piece.cell);
            int otherRoot = rootOf(other.cell);
            parents[otherRoot] = root;
            return root == otherRoot ? 0 : 1;
        }

        private int rootOf(int cell) {
            int root = cell;
            for (int step = 0; step < CELLS && parents[root] != root; step++) {
                root = parents[root];
            }
            return root;
        }
    }

    /** The boards before the latest changes, in a ring with one place more, where the next one is prepared. */
    private static final class History {
        private static final int RING = MOST_UNDOS + 1;
        private final Board[] ring = new Board[RING];
        private int next;
        private int count;

        History() {
            for (int index = 0; index < RING; index++) {
                ring[index] = new Board();
            }
        }

        void prepare(Board board) {
            prepared().copyFrom(board);
        }

        Board prepared() {
            return ring[next];
        }

        void keep() {
            next = (next + 1) % RING;
            count = Math.min(count + 1, MOST_UNDOS);
        }

        /** Takes out the board before the latest change; the caller sees to it that there is one. */
        Board takeLatest() {
            next = (next + RING - 1) % RING;
            count--;
            return ring[next];
        }

        void clear() {
            count = 0;
        }
    }

    /**
     * The commands, each with its word and the form of what follows: c stands for a colour, h for a hexadecimal
     * digit, d for a digit, n for a number, and any other sign for itself.
     */
    private enum Keyword {
        NEW("new ", "chhhh"),
        PUT("put ", "n@dd"),
        TAKE("take ", "n"),
        TURN("turn ", "n*d"),
        SWAP("swap ", "n&n"),
        FILL("fill", ""),
        DROP("drop ", "n");

        private final String word;
        private final String form;

        Keyword(String word, String form) {
            this.word = word;
            this.form = form;
        }
    }

    /** A command that was read, with a value for each part of its form. */
    private static final class Command {
        private static final int MOST_PARTS = 5;
        private Keyword keyword = Keyword.FILL;
        private final int[] values = new int[MOST_PARTS];
    }

    /** The input buffer and the commands that are read from it. */
    private static final class Script {
        // "fill;" twelve times is a full buffer, and no command is shorter.
        private static final int MOST_COMMANDS = 12;
        private final char[] text = new char[MOST_INPUT];
        private int length;
        private int position;
        private final Command[] commands = new Command[MOST_COMMANDS];
        private int commandCount;

        Script() {
            for (int index = 0; index < MOST_COMMANDS; index++) {
                commands[index] = new Command();
            }
        }

        boolean isFull() {
            return length >= MOST_INPUT;
        }

        int append(char character) {
            text[length] = character;
            length++;
            return length;
        }

        void clear() {
            length = 0;
        }

        /** Reads all commands; returns whether the text is well-formed. If not, the position is the error's. */
        boolean readAll() {
            position = 0;
            for (int index = 0; index < MOST_COMMANDS; index++) {
                if (!readCommand(commands[index])) {
                    return false;
                }
                if (position == length) {
                    commandCount = index + 1;
                    return true;
                }
                if (readSign(';') == NONE) {
                    return false;
                }
            }
            return false;
        }

        private boolean readCommand(Command command) {
            Keyword keyword = readKeyword();
            if (keyword == null) {
                return false;
            }
            command.keyword = keyword;
            for (int part = 0; part < keyword.form.length() && part < Command.MOST_PARTS; part++) {
                char kind = keyword.form.charAt(part);
                int value = kind == 'n' ? readNumber() : readSign(kind);
                if (value == NONE) {
                    return false;
                }
                command.values[part] = value;
            }
            return true;
        }

        /** Reads a keyword, or returns null at the first character with which no keyword goes on. */
        private Keyword readKeyword() {
            int longest = 0;
            for (int index = 0; index < KEYWORDS.length; index++) {
                String word = KEYWORDS[index].word;
                int common = commonLength(word);
                if (common == word.length()) {
                    position += common;
                    return KEYWORDS[index];
                }
                longest = Math.max(longest, common);
            }
            position += longest;
            return null;
        }

        /** How many letters of a word stand at the position. */
        private int commonLength(String word) {
            int common = 0;
            while (common < word.length() && position + common < length
                    && text[position + common] == word.charAt(common)) {
                common++;
            }
            return common;
        }

        private int readNumber() {
            int first = readSign('d');
            if (first == NONE) {
                return NONE;
            }
            int second = readSign('d');
            return second == NONE ? first : 10 * first + second;
        }

        /** Reads a character of a kind and returns its value; returns NONE and stays if there is none. */
        private int readSign(char kind) {
            if (position >= length) {
                return NONE;
            }
            int value = valueOfSign(kind, text[position]);
            if (value != NONE) {
                position++;
            }
            return value;
        }

        private static int valueOfSign(char kind, char sign) {
            if (kind == 'c') {
                return isColour(sign) ? sign : NONE;
            }
            if (kind == 'h') {
                return sign >= 'a' && sign <= 'f' ? sign - 'a' + 10 : digitValue(sign);
            }
            if (kind == 'd') {
                return digitValue(sign);
            }
            return sign == kind ? sign : NONE;
        }
    }
}
