import java.util.ArrayDeque;
import java.util.ArrayList;
import java.util.Collections;
import java.util.Deque;
import java.util.List;
import java.util.Random;

/** Plays games by chance, always the same ones, and compares every answer with the model's. */
public final class ModelTests {

    private static final int GAMES = 3000;
    // An object is used for at most 512 calls, and one game with its questions stays below that.
    private static final int STEPS = 24;

    private final Random chance;
    private final Stormroof game = new Stormroof();
    private final Deque<Model> before = new ArrayDeque<>();
    private String told;
    private int cells;
    private int calls;
    private Model now;

    private ModelTests(int seed) {
        chance = new Random(seed);
    }

    public static void main(String[] args) {
        for (int seed = 0; seed < GAMES; seed++) {
            new ModelTests(seed).playOne(seed);
        }
        for (int power = 0; power <= 6; power++) {
            compareWideBoard(power, new int[][] {{12, 7}, {6, 18}});
            // By the power 1 there are 205 turns, the most that many tries have found.
            compareWideBoard(power, new int[][] {{12, 13}, {1, 21}});
        }
        Due.end();
    }

    /** The most turns of all: two builders of each player on an empty board of 25 cells. */
    private static void compareWideBoard(int power, int[][] at) {
        Model model = new Model(5, 5, new int[] {power, 0}, new int[25], at);
        Stormroof game = new Stormroof();
        game.begin(5, 5, 2, power, 0);
        for (int[] cells : at) {
            for (int cell : cells) {
                game.place(cell);
            }
        }
        List<Integer> turns = new ArrayList<>(model.turns().keySet());
        Due.answer("wide board, turnCount with power " + power, turns.size(), game::turnCount);
        for (int i = 0; i < turns.size(); i++) {
            int place = i;
            Due.answer("wide board, turnAt " + i + " with power " + power, turns.get(i), () -> game.turnAt(place));
        }
    }

    private void playOne(int seed) {
        setUp(seed);
        compareState();
        for (int step = 0; step < STEPS && calls < 400; step++) {
            if (chance.nextInt(5) == 0) {
                takeBack();
            } else {
                play();
            }
            compareState();
        }
    }

    private void setUp(int seed) {
        boolean small = chance.nextInt(3) > 0;
        int rows = 2 + chance.nextInt(small ? 2 : 4);
        int columns = 2 + chance.nextInt(small ? 3 : 4);
        int builders = rows * columns == 4 ? 1 : 1 + chance.nextInt(2);
        int[] powers = {chance.nextInt(7), chance.nextInt(7)};
        cells = rows * columns;
        int[] heights = new int[cells];
        int most = 1 + chance.nextInt(5);
        for (int cell = 0; cell < cells; cell++) {
            heights[cell] = chance.nextInt(most);
        }
        List<Integer> free = new ArrayList<>();
        for (int cell = 0; cell < cells; cell++) {
            free.add(cell);
        }
        Collections.shuffle(free, chance);
        int[][] at = new int[2][builders];
        for (int i = 0; i < 2 * builders; i++) {
            int cell = free.get(i);
            at[i / builders][i % builders] = cell;
            heights[cell] = Math.min(heights[cell], 3);
        }
        told = "game " + seed + ": " + rows + "x" + columns + ", powers " + powers[0] + " and " + powers[1];
        now = new Model(rows, columns, powers, heights, at);
        Due.answer(told + " begin", cells, () -> game.begin(rows, columns, builders, powers[0], powers[1]));
        for (int cell = 0; cell < cells; cell++) {
            if (heights[cell] > 0) {
                int here = cell;
                Due.answer(told + " raise", 0, () -> game.raise(here, heights[here]));
            }
        }
        for (int i = 0; i < 2 * builders; i++) {
            int cell = at[i / builders][i % builders];
            int due = i + 1 == 2 * builders ? now.onTurn() : (i + 1) / builders;
            Due.answer(told + " place", due, () -> game.place(cell));
        }
        calls = 60;
    }

    private void play() {
        List<Integer> turns = new ArrayList<>(now.turns().keySet());
        int wrong = chance.nextInt(30000);
        if (!turns.contains(wrong)) {
            Due.notNow(told + " play " + wrong, () -> game.play(wrong));
        }
        if (turns.isEmpty()) {
            return;
        }
        int turn = turns.get(chance.nextInt(turns.size()));
        told = told + " " + turn;
        before.push(now);
        now = now.turns().get(turn);
        Due.answer(told + " play", now.winner(), () -> game.play(turn));
        calls += 2;
    }

    private void takeBack() {
        calls++;
        if (before.isEmpty()) {
            Due.notNow(told + " takeBack", game::takeBack);
            return;
        }
        now = before.pop();
        told = told + " back";
        Due.answer(told + " takeBack", before.size(), game::takeBack);
    }

    private void compareState() {
        Due.answer(told + " onTurn", now.onTurn(), game::onTurn);
        Due.answer(told + " winner", now.winner(), game::winner);
        Due.answer(told + " played", before.size(), game::played);
        int cell = chance.nextInt(cells);
        Due.answer(told + " height " + cell, now.height(cell), () -> game.height(cell));
        Due.answer(told + " builderAt " + cell, now.builderAt(cell), () -> game.builderAt(cell));
        int player = chance.nextInt(2);
        Due.answer(told + " reached " + player, now.reached(player), () -> game.reached(player));
        compareTurns();
        compareAhead();
        calls += 12;
    }

    private void compareTurns() {
        List<Integer> turns = new ArrayList<>(now.turns().keySet());
        Due.answer(told + " turnCount", turns.size(), game::turnCount);
        Due.outside(told + " turnAt behind the last", () -> game.turnAt(turns.size()));
        for (int i = 0; i < 3 && !turns.isEmpty(); i++) {
            int place = chance.nextInt(turns.size());
            Due.answer(told + " turnAt " + place, turns.get(place), () -> game.turnAt(place));
        }
    }

    private void compareAhead() {
        int turns = lookable();
        if (now.onTurn() < 0) {
            Due.notNow(told + " worth", () -> game.worth(turns));
            Due.notNow(told + " best", () -> game.best(Math.max(turns, 1)));
            return;
        }
        Due.answer(told + " worth " + turns, now.worth(turns), () -> game.worth(turns));
        if (turns > 0) {
            Due.answer(told + " best " + turns, now.best(turns), () -> game.best(turns));
        }
    }

    /** As many turns as the slow model can look ahead here. */
    private int lookable() {
        long count = now.turns().size();
        int most = count > 60 ? 1 : cells <= 8 && count <= 14 ? 3 : 2;
        return chance.nextInt(most + 1);
    }
}
