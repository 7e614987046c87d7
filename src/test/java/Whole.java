import java.util.ArrayDeque;
import java.util.ArrayList;
import java.util.Deque;
import java.util.List;

/** The whole face once more, around the Model: each call answers what is due, or the name of what is thrown. */
final class Whole {

    private static final String INDEX = "IndexOutOfBoundsException";
    private static final String ARGUMENT = "IllegalArgumentException";
    private static final String STATE = "IllegalStateException";

    private final List<Integer> placed = new ArrayList<>();
    private final Deque<Model> before = new ArrayDeque<>();
    private int rows = 5;
    private int columns = 5;
    private int builders = 2;
    private int[] powers = {0, 0};
    private int[] heights = new int[25];
    // The position since all builders have been placed, null before.
    private Model now;

    int cells() {
        return rows * columns;
    }

    boolean isPlaced() {
        return now != null;
    }

    boolean isOver() {
        return now != null && now.winner() >= 0;
    }

    List<Integer> turns() {
        return now == null ? new ArrayList<>() : new ArrayList<>(now.turns().keySet());
    }

    String begin(int rows, int columns, int builders, int first, int second) {
        boolean isRight = in(rows, 2, 5) && in(columns, 2, 5) && in(builders, 1, 2) && in(first, 0, 6) && in(second, 0, 6);
        if (!isRight || rows * columns - 2 * builders < 1) {
            return ARGUMENT;
        }
        this.rows = rows;
        this.columns = columns;
        this.builders = builders;
        powers = new int[] {first, second};
        heights = new int[cells()];
        placed.clear();
        before.clear();
        now = null;
        return told(cells());
    }

    String place(int cell) {
        if (!in(cell, 0, cells() - 1)) {
            return INDEX;
        }
        if (isPlaced() || placed.contains(cell) || heights[cell] == 4) {
            return STATE;
        }
        placed.add(cell);
        if (placed.size() == 2 * builders) {
            int[][] at = new int[2][builders];
            for (int i = 0; i < 2 * builders; i++) {
                at[i / builders][i % builders] = placed.get(i);
            }
            now = new Model(rows, columns, powers, heights.clone(), at);
        }
        return onTurn();
    }

    String raise(int cell, int height) {
        if (!in(cell, 0, cells() - 1)) {
            return INDEX;
        }
        if (!in(height, 0, 4)) {
            return ARGUMENT;
        }
        if (isPlaced() || placed.contains(cell)) {
            return STATE;
        }
        int old = heights[cell];
        heights[cell] = height;
        return told(old);
    }

    String onTurn() {
        return told(isPlaced() ? now.onTurn() : placed.size() / builders);
    }

    String winner() {
        return told(isPlaced() ? now.winner() : -1);
    }

    String height(int cell) {
        if (!in(cell, 0, cells() - 1)) {
            return INDEX;
        }
        return told(isPlaced() ? now.height(cell) : heights[cell]);
    }

    String builderAt(int cell) {
        if (!in(cell, 0, cells() - 1)) {
            return INDEX;
        }
        if (isPlaced()) {
            return told(now.builderAt(cell));
        }
        int i = placed.indexOf(cell);
        return told(i < 0 ? -1 : 10 * (i / builders) + i % builders);
    }

    String played() {
        return told(before.size());
    }

    String turnCount() {
        return isPlaced() ? told(turns().size()) : STATE;
    }

    String turnAt(int place) {
        if (!isPlaced()) {
            return STATE;
        }
        List<Integer> turns = turns();
        return in(place, 0, turns.size() - 1) ? told(turns.get(place)) : INDEX;
    }

    String play(int turn) {
        if (!turns().contains(turn)) {
            return STATE;
        }
        before.push(now);
        now = now.turns().get(turn);
        return winner();
    }

    String takeBack() {
        if (before.isEmpty()) {
            return STATE;
        }
        now = before.pop();
        return played();
    }

    String worth(int turns) {
        String refused = refusedAhead(turns, 0);
        return refused == null ? told(now.worth(turns)) : refused;
    }

    String best(int turns) {
        String refused = refusedAhead(turns, 1);
        return refused == null ? told(now.best(turns)) : refused;
    }

    String reached(int player) {
        if (!in(player, 0, 1)) {
            return INDEX;
        }
        if (isPlaced()) {
            return told(now.reached(player));
        }
        int sum = 0;
        for (int i = 0; i < placed.size(); i++) {
            sum += i / builders == player ? heights[placed.get(i)] : 0;
        }
        return told(sum);
    }

    private String refusedAhead(int turns, int least) {
        if (!in(turns, least, 3)) {
            return ARGUMENT;
        }
        return !isPlaced() || isOver() || turns == 3 && cells() > 8 ? STATE : null;
    }

    private static boolean in(int value, int least, int most) {
        return value >= least && value <= most;
    }

    private static String told(int answer) {
        return String.valueOf(answer);
    }
}
