import java.util.Arrays;

/** A game of builders on a board of cells. */
public final class Stormroof {

    private static final int NONE = -1;
    private static final int LEAST_SIDE = 2;
    private static final int MOST_SIDE = 5;
    private static final int MOST_CELLS = MOST_SIDE * MOST_SIDE;
    private static final int MOST_BUILDERS = 2;
    private static final int MOST_AHEAD = 3;
    private static final int MOST_CELLS_FOR_MOST_AHEAD = 8;

    private static final int SUMMIT = 3;
    private static final int DOME = 4;

    private static final int NO_POWER = 0;
    private static final int MOVES_TWICE = 1;
    private static final int SWAPS = 2;
    private static final int PUSHES = 3;
    private static final int BARS_CLIMBING = 4;
    private static final int WINS_BY_LEAP = 5;
    private static final int BUILDS_DOMES = 6;

    private static final int PER_PLAYER = 10;
    private static final int PER_BUILDER = 10000;
    private static final int PER_CELL = 100;
    private static final int DOME_MARK = 50;
    private static final int WIN_MARK = 99;

    private final Board board;
    private final TurnList listed;
    private final Outlook outlook;

    public Stormroof() {
        board = new Board();
        listed = new TurnList();
        outlook = new Outlook();
        board.start(MOST_SIDE, MOST_SIDE, MOST_BUILDERS, NO_POWER, NO_POWER);
    }

    public int begin(int rows, int columns, int builders, int first, int second) throws IllegalArgumentException {
        if (isOutside(rows, LEAST_SIDE, MOST_SIDE) || isOutside(columns, LEAST_SIDE, MOST_SIDE)) {
            throw new IllegalArgumentException("rows or columns out of range");
        }
        if (isOutside(builders, 1, MOST_BUILDERS) || 2 * builders >= rows * columns) {
            throw new IllegalArgumentException("builders out of range, or they leave no cell free");
        }
        if (isOutside(first, NO_POWER, BUILDS_DOMES) || isOutside(second, NO_POWER, BUILDS_DOMES)) {
            throw new IllegalArgumentException("power out of range");
        }
        board.start(rows, columns, builders, first, second);
        return board.cells;
    }

    public int place(int cell) throws IndexOutOfBoundsException, IllegalStateException {
        requireCell(cell);
        if (board.isSet() || !board.isOpen(cell)) {
            throw new IllegalStateException("no builder can be placed there now");
        }
        board.addBuilder(cell);
        return board.mover();
    }

    public int raise(int cell, int height)
            throws IndexOutOfBoundsException, IllegalArgumentException, IllegalStateException {
        requireCell(cell);
        if (isOutside(height, 0, DOME)) {
            throw new IllegalArgumentException("height out of range");
        }
        if (board.isSet() || board.holderOf(cell) != NONE) {
            throw new IllegalStateException("the height cannot be set there now");
        }
        int before = board.storeysOf(cell);
        board.setStoreys(cell, height);
        return before;
    }

    public int onTurn() {
        return board.mover();
    }

    public int winner() {
        return board.victor;
    }

    public int height(int cell) throws IndexOutOfBoundsException {
        requireCell(cell);
        return board.storeysOf(cell);
    }

    public int builderAt(int cell) throws IndexOutOfBoundsException {
        requireCell(cell);
        return board.holderOf(cell);
    }

    public int played() {
        return board.turnsPlayed;
    }

    public int turnCount() throws IllegalStateException {
        requireAllPlaced();
        board.listTurns(listed);
        return listed.size;
    }

    public int turnAt(int place) throws IndexOutOfBoundsException, IllegalStateException {
        requireAllPlaced();
        board.listTurns(listed);
        if (isOutside(place, 0, listed.size - 1)) {
            throw new IndexOutOfBoundsException("no such place");
        }
        return listed.at(place);
    }

    public int play(int turn) throws IllegalStateException {
        requireAllPlaced();
        board.listTurns(listed);
        if (!listed.holds(turn)) {
            throw new IllegalStateException("no such turn now");
        }
        board.perform(turn);
        return board.victor;
    }

    public int takeBack() throws IllegalStateException {
        if (board.turnsPlayed == 0) {
            throw new IllegalStateException("no turn is left");
        }
        board.undo();
        return board.turnsPlayed;
    }

    public int worth(int turns) throws IllegalArgumentException, IllegalStateException {
        requireAhead(turns, 0);
        return outlook.look(board, turns);
    }

    public int best(int turns) throws IllegalArgumentException, IllegalStateException {
        requireAhead(turns, 1);
        int worth = outlook.look(board, turns);
        board.listTurns(listed);
        for (int i = 0; i < listed.size; i++) {
            int turn = listed.at(i);
            if (outlook.worthOf(board, turn, turns) == worth) {
                return turn;
            }
        }
        // Never reached: the worth of now is the worth behind one of the turns.
        return NONE;
    }

    public int reached(int player) throws IndexOutOfBoundsException {
        if (isOutside(player, 0, 1)) {
            throw new IndexOutOfBoundsException("no such player");
        }
        return board.storeysUnder(player);
    }

    private static boolean isOutside(int value, int least, int most) {
        return value < least || value > most;
    }

    private void requireCell(int cell) {
        if (isOutside(cell, 0, board.cells - 1)) {
            throw new IndexOutOfBoundsException("no such cell");
        }
    }

    private void requireAllPlaced() {
        if (!board.isSet()) {
            throw new IllegalStateException("not all builders are placed");
        }
    }

    private void requireAhead(int turns, int least) {
        if (isOutside(turns, least, MOST_AHEAD)) {
            throw new IllegalArgumentException("turns out of range");
        }
        requireAllPlaced();
        if (board.victor != NONE) {
            throw new IllegalStateException("the game is over");
        }
        if (turns == MOST_AHEAD && board.cells > MOST_CELLS_FOR_MOST_AHEAD) {
            throw new IllegalStateException("the board is too large to look so far ahead");
        }
    }

    /** Numbers of turns, the lowest first. */
    private static final class TurnList {

        // The most turns has a player with two builders that move twice: each reaches at most every
        // cell, builds there at most at its neighbours (144 on the largest board), or wins there.
        private static final int ROOM = MOST_BUILDERS * (144 + MOST_CELLS);

        private final int[] numbers = new int[ROOM];
        private int size;

        void clear() {
            size = 0;
        }

        void add(int turn) {
            if (size >= 0 && size < numbers.length) {
                numbers[size] = turn;
                size++;
            }
        }

        int at(int place) {
            return place >= 0 && place < numbers.length ? numbers[place] : NONE;
        }

        boolean holds(int turn) {
            for (int i = 0; i < size; i++) {
                if (at(i) == turn) {
                    return true;
                }
            }
            return false;
        }
    }

    /** The cells, the builders, and the turns that have been played. */
    private static final class Board {

        // The directions stand in such an order that a cell's neighbours come by rising numbers.
        private static final int[] DOWN = {-1, -1, -1, 0, 0, 1, 1, 1};
        private static final int[] ACROSS = {-1, 0, 1, -1, 1, -1, 0, 1};
        private static final int DIRECTIONS = 8;

        // Every turn but a winning move builds, and no cell can be built on more than DOME times.
        private static final int LONGEST_GAME = MOST_CELLS * DOME + 1;
        private static final int PAST_SIZE = 5;

        // In a reach, bit n stands for a move to cell n, and bit n + WINS for a winning one.
        private static final int WINS = 32;

        private final int[] neighbours = new int[MOST_CELLS * DIRECTIONS];
        private final int[] storeys = new int[MOST_CELLS];
        private final int[] holders = new int[MOST_CELLS];
        private final int[] spots = new int[2 * MOST_BUILDERS];
        private final int[] past = new int[LONGEST_GAME * PAST_SIZE];
        private int cells;
        private int builders;
        private int firstPower;
        private int secondPower;
        private int placed;
        private int turnsPlayed;
        private int victor;
        private boolean climbingBarred;

        void start(int rows, int columns, int builders, int firstPower, int secondPower) {
            this.cells = rows * columns;
            this.builders = builders;
            this.firstPower = firstPower;
            this.secondPower = secondPower;
            placed = 0;
            turnsPlayed = 0;
            victor = NONE;
            climbingBarred = false;
            Arrays.fill(storeys, 0);
            Arrays.fill(holders, NONE);
            Arrays.fill(spots, NONE);
            for (int row = 0; row < rows; row++) {
                for (int column = 0; column < columns; column++) {
                    joinNeighbours(row, column, rows, columns);
                }
            }
        }

        private void joinNeighbours(int row, int column, int rows, int columns) {
            for (int d = 0; d < DIRECTIONS; d++) {
                int r = row + DOWN[d];
                int c = column + ACROSS[d];
                boolean isOnBoard = r >= 0 && r < rows && c >= 0 && c < columns;
                int at = (row * columns + column) * DIRECTIONS + d;
                if (at >= 0 && at < neighbours.length) {
                    neighbours[at] = isOnBoard ? r * columns + c : NONE;
                }
            }
        }

        int storeysOf(int cell) {
            return cell >= 0 && cell < storeys.length ? storeys[cell] : 0;
        }

        int holderOf(int cell) {
            return cell >= 0 && cell < holders.length ? holders[cell] : NONE;
        }

        boolean isOpen(int cell) {
            return cell >= 0 && cell < MOST_CELLS && holders[cell] == NONE && storeys[cell] < DOME;
        }

        boolean isSet() {
            return placed == 2 * builders;
        }

        int mover() {
            if (victor != NONE) {
                return NONE;
            }
            if (isSet()) {
                return turnsPlayed % 2;
            }
            return placed < builders ? 0 : 1;
        }

        int storeysUnder(int player) {
            int sum = 0;
            for (int number = 0; number < builders; number++) {
                sum += storeysOf(spotOf(player, number));
            }
            return sum;
        }

        void setStoreys(int cell, int height) {
            if (cell >= 0 && cell < storeys.length) {
                storeys[cell] = height;
            }
        }

        void addBuilder(int cell) {
            int player = placed < builders ? 0 : 1;
            int number = placed - player * builders;
            put(PER_PLAYER * player + number, cell);
            placed++;
            if (isSet() && !hasTurn(0)) {
                victor = 1;
            }
        }

        void listTurns(TurnList list) {
            list.clear();
            if (victor != NONE) {
                return;
            }
            int player = turnsPlayed % 2;
            for (int number = 0; number < builders; number++) {
                int from = spotOf(player, number);
                long reach = reachOf(player, from);
                for (int to = 0; to < cells; to++) {
                    int turn = PER_BUILDER * number + PER_CELL * to;
                    if ((reach >> to & 1) != 0) {
                        listBuildings(list, turn, from, to);
                    }
                    if ((reach >> to + WINS & 1) != 0) {
                        list.add(turn + WIN_MARK);
                    }
                }
            }
        }

        void perform(int turn) {
            int player = turnsPlayed % 2;
            int from = spotOf(player, turn / PER_BUILDER);
            int to = destinationOf(turn);
            int what = turn % PER_CELL;
            int aside = asideOf(player, from, to);
            remember(turn, from, aside);
            climbingBarred = powerOf(player) == BARS_CLIMBING && storeysOf(to) > storeysOf(from);
            carry(from, to, aside);
            turnsPlayed++;
            if (what < DOME_MARK) {
                setStoreys(what, storeysOf(what) + 1);
            } else if (what < WIN_MARK) {
                setStoreys(what - DOME_MARK, DOME);
            }
            if (what == WIN_MARK || !hasTurn(1 - player)) {
                victor = player;
            }
        }

        void undo() {
            int at = (turnsPlayed - 1) * PAST_SIZE;
            if (at < 0 || at + PAST_SIZE > past.length) {
                return;
            }
            turnsPlayed--;
            victor = NONE;
            int turn = past[at];
            setStoreys(builtCellOf(turn), past[at + 3]);
            climbingBarred = past[at + 4] == 1;
            carryBack(past[at + 1], destinationOf(turn), past[at + 2]);
        }

        private void remember(int turn, int from, int aside) {
            int at = turnsPlayed * PAST_SIZE;
            if (at >= 0 && at + PAST_SIZE <= past.length) {
                past[at] = turn;
                past[at + 1] = from;
                past[at + 2] = aside;
                past[at + 3] = storeysOf(builtCellOf(turn));
                past[at + 4] = climbingBarred ? 1 : 0;
            }
        }

        private void carry(int from, int to, int aside) {
            int mine = holderOf(from);
            int other = holderOf(to);
            clear(from);
            put(mine, to);
            if (aside != NONE) {
                put(other, aside);
            }
        }

        private void carryBack(int from, int to, int aside) {
            int mine = holderOf(to);
            int other = holderOf(aside);
            clear(to);
            if (aside != NONE) {
                clear(aside);
                put(other, to);
            }
            put(mine, from);
        }

        private void put(int builder, int cell) {
            int at = MOST_BUILDERS * (builder / PER_PLAYER) + builder % PER_PLAYER;
            if (cell >= 0 && cell < holders.length && at >= 0 && at < spots.length) {
                holders[cell] = builder;
                spots[at] = cell;
            }
        }

        private void clear(int cell) {
            if (cell >= 0 && cell < holders.length) {
                holders[cell] = NONE;
            }
        }

        private static int destinationOf(int turn) {
            return turn / PER_CELL % PER_CELL;
        }

        private static int builtCellOf(int turn) {
            int what = turn % PER_CELL;
            if (what == WIN_MARK) {
                return NONE;
            }
            return what < DOME_MARK ? what : what - DOME_MARK;
        }

        private int powerOf(int player) {
            return player == 0 ? firstPower : secondPower;
        }

        private int spotOf(int player, int number) {
            int at = MOST_BUILDERS * player + number;
            return at >= 0 && at < spots.length ? spots[at] : NONE;
        }

        private int neighbourOf(int cell, int direction) {
            int at = cell * DIRECTIONS + direction;
            return at >= 0 && at < neighbours.length ? neighbours[at] : NONE;
        }

        /** The cell to which a builder of the other player comes by a move, NONE if there is none. */
        private int asideOf(int player, int from, int to) {
            if (holderOf(to) == NONE) {
                return NONE;
            }
            // A pushed builder goes one more step of the same length and direction.
            return powerOf(player) == SWAPS ? from : to + (to - from);
        }

        private boolean hasTurn(int player) {
            for (int number = 0; number < builders; number++) {
                int from = spotOf(player, number);
                for (int d = 0; d < DIRECTIONS; d++) {
                    // A second move need not be tried: behind a first one to a free cell the builder
                    // can always build on the cell that it left.
                    long step = stepOf(player, from, d);
                    if (step >> WINS != 0 || step != 0 && canBuild(player, from, neighbourOf(from, d))) {
                        return true;
                    }
                }
            }
            return false;
        }

        private long reachOf(int player, int from) {
            long firsts = 0;
            for (int d = 0; d < DIRECTIONS; d++) {
                firsts |= stepOf(player, from, d);
            }
            if (powerOf(player) != MOVES_TWICE) {
                return firsts;
            }
            long reach = firsts;
            for (int middle = 0; middle < cells; middle++) {
                if ((firsts >> middle & 1) == 0) {
                    continue;
                }
                // The builder still stands on its first cell, so no second move leads back there.
                for (int d = 0; d < DIRECTIONS; d++) {
                    reach |= stepOf(player, middle, d);
                }
            }
            return reach;
        }

        /** The one bit of a reach for this move, 0 if the player on turn cannot make it. */
        private long stepOf(int player, int from, int direction) {
            int to = neighbourOf(from, direction);
            int rise = storeysOf(to) - storeysOf(from);
            int mostRise = climbingBarred ? 0 : 1;
            if (to == NONE || rise > mostRise || !canEnter(player, to, direction)) {
                return 0;
            }
            boolean isWinning = rise > 0 && storeysOf(to) == SUMMIT
                    || rise <= -2 && powerOf(player) == WINS_BY_LEAP;
            return 1L << (isWinning ? to + WINS : to);
        }

        private boolean canEnter(int player, int to, int direction) {
            int holder = holderOf(to);
            if (holder == NONE) {
                return isOpen(to);
            }
            if (holder / PER_PLAYER == player) {
                return false;
            }
            return powerOf(player) == SWAPS
                    || powerOf(player) == PUSHES && isOpen(neighbourOf(to, direction));
        }

        private boolean canBuild(int player, int from, int to) {
            int aside = asideOf(player, from, to);
            for (int d = 0; d < DIRECTIONS; d++) {
                if (isOpenBehind(from, aside, neighbourOf(to, d))) {
                    return true;
                }
            }
            return false;
        }

        private void listBuildings(TurnList list, int turn, int from, int to) {
            int player = turnsPlayed % 2;
            int aside = asideOf(player, from, to);
            for (int d = 0; d < DIRECTIONS; d++) {
                int cell = neighbourOf(to, d);
                if (isOpenBehind(from, aside, cell)) {
                    list.add(turn + cell);
                }
            }
            if (powerOf(player) != BUILDS_DOMES) {
                return;
            }
            for (int d = 0; d < DIRECTIONS; d++) {
                int cell = neighbourOf(to, d);
                if (isOpenBehind(from, aside, cell) && storeysOf(cell) < SUMMIT) {
                    list.add(turn + DOME_MARK + cell);
                }
            }
        }

        /** Whether a cell has neither a builder nor a dome behind a move that has not been made yet. */
        private boolean isOpenBehind(int from, int aside, int cell) {
            return cell != aside && (cell == from || isOpen(cell));
        }
    }

    /** Looks ahead by playing turns on the board and taking them back. */
    private static final class Outlook {

        private final TurnList lastTurns = new TurnList();
        private final TurnList nextTurns = new TurnList();
        private final TurnList firstTurns = new TurnList();

        /** The worth for the player on turn, with at most MOST_AHEAD turns to go. */
        private int look(Board board, int turnsLeft) {
            if (turnsLeft <= 0 || turnsLeft > MOST_AHEAD) {
                return 0;
            }
            TurnList list = listFor(turnsLeft);
            board.listTurns(list);
            int most = -1;
            for (int i = 0; i < list.size && most < 1; i++) {
                most = Math.max(most, worthOf(board, list.at(i), 1));
            }
            if (turnsLeft == 1 || most == 1) {
                return most;
            }
            // With two turns left, what does not win at once is worth 0 at the most.
            int enough = turnsLeft == 2 ? 0 : 1;
            most = -1;
            for (int i = 0; i < list.size && most < enough; i++) {
                most = Math.max(most, worthOf(board, list.at(i), turnsLeft));
            }
            return most;
        }

        /** The worth behind a turn for the player who plays it, this turn being one of turnsLeft. */
        private int worthOf(Board board, int turn, int turnsLeft) {
            board.perform(turn);
            int worth = board.victor != NONE ? 1 : -look(board, turnsLeft - 1);
            board.undo();
            return worth;
        }

        private TurnList listFor(int turnsLeft) {
            if (turnsLeft == 1) {
                return lastTurns;
            }
            return turnsLeft == 2 ? nextTurns : firstTurns;
        }
    }
}
