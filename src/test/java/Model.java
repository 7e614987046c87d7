import java.util.ArrayList;
import java.util.List;
import java.util.Map;
import java.util.SortedMap;
import java.util.TreeMap;

/**
 * The rules once more, written slowly and in another way than the class: a position never changes,
 * every turn makes a new one, and looking ahead tries everything.
 */
final class Model {

    private static final int UNKNOWN = -2;

    private final int rows;
    private final int columns;
    private final int[] powers;
    private final int player;
    private final boolean mayClimb;
    private final int[] heights;
    private final int[][] at;
    private int winner;

    /** The position before the first turn; at[player][number] is a builder's cell. */
    Model(int rows, int columns, int[] powers, int[] heights, int[][] at) {
        this.rows = rows;
        this.columns = columns;
        this.powers = powers;
        this.player = 0;
        this.mayClimb = true;
        this.heights = heights;
        this.at = at;
        this.winner = UNKNOWN;
    }

    /** The position behind a turn. */
    private Model(Model before, boolean mayClimb, int[] heights, int[][] at, int winner) {
        this.rows = before.rows;
        this.columns = before.columns;
        this.powers = before.powers;
        this.player = 1 - before.player;
        this.mayClimb = mayClimb;
        this.heights = heights;
        this.at = at;
        this.winner = winner;
    }

    int winner() {
        if (winner == UNKNOWN) {
            winner = turnsOf().isEmpty() ? 1 - player : -1;
        }
        return winner;
    }

    int onTurn() {
        return winner() >= 0 ? -1 : player;
    }

    SortedMap<Integer, Model> turns() {
        return winner() >= 0 ? new TreeMap<>() : turnsOf();
    }

    int height(int cell) {
        return heights[cell];
    }

    int builderAt(int cell) {
        for (int p = 0; p < 2; p++) {
            for (int n = 0; n < at[p].length; n++) {
                if (at[p][n] == cell) {
                    return 10 * p + n;
                }
            }
        }
        return -1;
    }

    int reached(int who) {
        int sum = 0;
        for (int cell : at[who]) {
            sum += heights[cell];
        }
        return sum;
    }

    int worth(int turns) {
        if (winner() >= 0) {
            return winner() == player ? 1 : -1;
        }
        if (turns == 0) {
            return 0;
        }
        int most = -1;
        for (Model next : turns().values()) {
            most = Math.max(most, next.worthForOther(player, turns - 1));
        }
        return most;
    }

    int best(int turns) {
        int worth = worth(turns);
        for (Map.Entry<Integer, Model> turn : turns().entrySet()) {
            if (turn.getValue().worthForOther(player, turns - 1) == worth) {
                return turn.getKey();
            }
        }
        throw new AssertionError("no turn has the worth of now");
    }

    private int worthForOther(int who, int turns) {
        int worth = worth(turns);
        return who == player ? worth : -worth;
    }

    private static final class Move {
        final int to;
        final boolean wins;
        final int[][] at;

        Move(int to, boolean wins, int[][] at) {
            this.to = to;
            this.wins = wins;
            this.at = at;
        }
    }

    private SortedMap<Integer, Model> turnsOf() {
        SortedMap<Integer, Model> found = new TreeMap<>();
        for (int n = 0; n < at[player].length; n++) {
            int home = at[player][n];
            for (Move first : movesFrom(at, n)) {
                endTurn(found, n, first);
                if (powers[player] == 1 && !first.wins) {
                    for (Move second : movesFrom(first.at, n)) {
                        if (second.to != home) {
                            endTurn(found, n, second);
                        }
                    }
                }
            }
        }
        return found;
    }

    private List<Move> movesFrom(int[][] where, int n) {
        List<Move> moves = new ArrayList<>();
        int from = where[player][n];
        for (int to = 0; to < rows * columns; to++) {
            boolean tooHigh = heights[to] > heights[from] + 1 || !mayClimb && heights[to] > heights[from];
            if (!touch(from, to) || heights[to] == 4 || tooHigh) {
                continue;
            }
            int[][] after = new int[][] {where[0].clone(), where[1].clone()};
            after[player][n] = to;
            if (makeWay(where, after, from, to)) {
                boolean up = heights[to] == 3 && heights[from] < 3;
                boolean down = powers[player] == 5 && heights[from] - heights[to] >= 2;
                moves.add(new Move(to, up || down, after));
            }
        }
        return moves;
    }

    private boolean makeWay(int[][] where, int[][] after, int from, int to) {
        if (isIn(where[player], to)) {
            return false;
        }
        for (int m = 0; m < where[1 - player].length; m++) {
            if (where[1 - player][m] != to) {
                continue;
            }
            if (powers[player] == 2) {
                after[1 - player][m] = from;
                return true;
            }
            int row = 2 * (to / columns) - from / columns;
            int column = 2 * (to % columns) - from % columns;
            if (powers[player] != 3 || row < 0 || row >= rows || column < 0 || column >= columns) {
                return false;
            }
            int beyond = row * columns + column;
            if (heights[beyond] == 4 || isIn(where[0], beyond) || isIn(where[1], beyond)) {
                return false;
            }
            after[1 - player][m] = beyond;
        }
        return true;
    }

    private void endTurn(SortedMap<Integer, Model> found, int n, Move move) {
        int turn = 10000 * n + 100 * move.to;
        boolean rose = heights[move.to] > heights[at[player][n]];
        boolean nextMayClimb = !(powers[player] == 4 && rose);
        if (move.wins) {
            found.put(turn + 99, new Model(this, nextMayClimb, heights, move.at, player));
            return;
        }
        for (int cell = 0; cell < rows * columns; cell++) {
            if (!touch(move.to, cell) || heights[cell] == 4 || isIn(move.at[0], cell) || isIn(move.at[1], cell)) {
                continue;
            }
            found.put(turn + cell, new Model(this, nextMayClimb, built(cell, heights[cell] + 1), move.at, UNKNOWN));
            if (powers[player] == 6 && heights[cell] < 3) {
                found.put(turn + 50 + cell, new Model(this, nextMayClimb, built(cell, 4), move.at, UNKNOWN));
            }
        }
    }

    private boolean touch(int one, int other) {
        int down = Math.abs(one / columns - other / columns);
        int across = Math.abs(one % columns - other % columns);
        return Math.max(down, across) == 1;
    }

    private int[] built(int cell, int height) {
        int[] after = heights.clone();
        after[cell] = height;
        return after;
    }

    private static boolean isIn(int[] cells, int cell) {
        for (int one : cells) {
            if (one == cell) {
                return true;
            }
        }
        return false;
    }
}
