import java.util.ArrayList;
import java.util.Arrays;
import java.util.List;
import java.util.TreeSet;

/** Makes games on boards told by their heights, and reads all that can be seen of one; tests extend it. */
abstract class Games {

    static final String INDEX = "IndexOutOfBoundsException";
    static final String ARGUMENT = "IllegalArgumentException";
    static final String STATE = "IllegalStateException";

    // Boards are written as their heights, row by row.
    static final int[] FLAT_2_2 = {0, 0, 0, 0};
    static final int[] FLAT_2_3 = {0, 0, 0, 0, 0, 0};
    static final int[] FLAT_3_3 = {0, 0, 0, 0, 0, 0, 0, 0, 0};

    interface Maker {
        Stormroof make();
    }

    interface Asked {
        int answer(Stormroof game);
    }

    static Stormroof game(int rows, int columns, int builders, int first, int second, int[] heights, int... placed) {
        Stormroof game = new Stormroof();
        game.begin(rows, columns, builders, first, second);
        for (int cell = 0; cell < heights.length; cell++) {
            game.raise(cell, heights[cell]);
        }
        for (int cell : placed) {
            game.place(cell);
        }
        return game;
    }

    /** Two players with one builder each. */
    static Stormroof duel(int columns, int first, int second, int[] heights, int own, int other) {
        return game(heights.length / columns, columns, 1, first, second, heights, own, other);
    }

    /** Such a game in which these turns have been played. */
    static Stormroof behind(Stormroof game, int... turns) {
        for (int turn : turns) {
            game.play(turn);
        }
        return game;
    }

    static List<Integer> turnsOf(Stormroof game) {
        List<Integer> turns = new ArrayList<>();
        int count = game.turnCount();
        for (int i = 0; i < count; i++) {
            turns.add(game.turnAt(i));
        }
        return turns;
    }

    static void turns(String what, Stormroof game, Integer... due) {
        Due.is(what, turnsOf(game), Arrays.asList(due));
        Due.outside(what + ", behind the last", () -> game.turnAt(due.length));
    }

    /** The cells to which the first builder of the player on turn comes by its turns. */
    static void comesTo(String what, Stormroof game, Integer... due) {
        TreeSet<Integer> cells = new TreeSet<>();
        for (int turn : turnsOf(game)) {
            if (turn < 10000) {
                cells.add(turn / 100);
            }
        }
        Due.is(what, cells, new TreeSet<>(Arrays.asList(due)));
    }

    /** A call throws this, and behind it the game, and what can be taken back, is that of a game not asked. */
    static void refuses(String what, String exception, Maker maker, Asked asked) {
        Stormroof game = maker.make();
        Due.is(what, Due.outcome(() -> asked.answer(game)), exception);
        Due.is(what + ", what is left then", seenBackToTheFirst(game), seenBackToTheFirst(maker.make()));
    }

    /** A call answers this, and behind it the game, and what can be taken back, is that of a game not asked. */
    static void onlyTells(String what, int due, Maker maker, Asked asked) {
        refuses(what, String.valueOf(due), maker, asked);
    }

    private static String seenBackToTheFirst(Stormroof game) {
        StringBuilder text = new StringBuilder(seen(game));
        for (int left = game.played(); left > 0; left--) {
            text.append('\n').append(game.takeBack()).append(' ').append(seen(game));
        }
        return text.toString();
    }

    /** All answers that change nothing, but for looking ahead. */
    static String seen(Stormroof game) {
        StringBuilder text = new StringBuilder();
        for (int cell = 0; !Due.outcome(heightOf(game, cell)).equals(INDEX); cell++) {
            text.append(game.height(cell)).append('/').append(game.builderAt(cell)).append(' ');
        }
        text.append("on turn ").append(game.onTurn()).append(" winner ").append(game.winner());
        text.append(" played ").append(game.played());
        text.append(" reached ").append(game.reached(0)).append(' ').append(game.reached(1));
        boolean isPlaced = !Due.outcome(game::turnCount).equals(STATE);
        return text.append(" turns ").append(isPlaced ? turnsOf(game) : STATE).toString();
    }

    private static Due.Call heightOf(Stormroof game, int cell) {
        return () -> game.height(cell);
    }
}
