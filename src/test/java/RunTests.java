import java.util.List;
import java.util.Random;

/**
 * Runs of 512 calls by chance (always the same ones) on one object, with right and wrong arguments, possible
 * now or not, and game after game: each answer, or what is thrown, is compared with what is due.
 */
public final class RunTests {

    private static final int RUNS = 600;
    private static final int CALLS = 512;
    // Looking far ahead is dear for the model, and is compared by ModelTests.
    private static final int MOST_TURNS_TO_LOOK_AHEAD = 12;

    private final Random chance;
    private final int seed;
    private final Stormroof game = new Stormroof();
    private final Whole due = new Whole();
    private int calls;

    private RunTests(int seed) {
        this.seed = seed;
        chance = new Random(seed);
    }

    public static void main(String[] args) {
        for (int seed = 0; seed < RUNS; seed++) {
            new RunTests(seed).runAll();
        }
        Due.end();
    }

    private void runAll() {
        // Some runs stay on the board of a new object for long.
        boolean beginsSoon = seed % 4 > 0;
        while (calls < CALLS) {
            if (beginsSoon || chance.nextInt(due.isOver() ? 6 : 60) == 0) {
                begin();
                beginsSoon = false;
            } else if (chance.nextInt(3) == 0) {
                ask();
            } else if (!due.isPlaced()) {
                prepare();
            } else {
                goOn();
            }
        }
    }

    private void compare(String call, String answer, Due.Call asked) {
        calls++;
        Due.is("run " + seed + ", call " + calls + ", " + call, Due.outcome(asked), answer);
    }

    private void begin() {
        boolean isLarge = chance.nextInt(3) == 0;
        int rows = oftenIn(2, isLarge ? 5 : 3);
        int columns = oftenIn(2, isLarge ? 5 : 4);
        int builders = oftenIn(1, 2);
        int first = oftenIn(0, 6);
        int second = oftenIn(0, 6);
        compare("begin " + rows + " " + columns + " " + builders + " " + first + " " + second,
                due.begin(rows, columns, builders, first, second),
                () -> game.begin(rows, columns, builders, first, second));
    }

    /** Before all builders are placed. */
    private void prepare() {
        int cell = oftenIn(0, due.cells() - 1);
        if (chance.nextInt(4) == 0) {
            compare("place " + cell, due.place(cell), () -> game.place(cell));
        } else {
            int height = oftenIn(0, chance.nextInt(5));
            compare("raise " + cell + " " + height, due.raise(cell, height), () -> game.raise(cell, height));
        }
    }

    /** Behind the last builder that is placed. */
    private void goOn() {
        if (chance.nextInt(4) == 0) {
            compare("takeBack", due.takeBack(), game::takeBack);
            return;
        }
        List<Integer> turns = due.turns();
        boolean isWrong = turns.isEmpty() || chance.nextInt(10) == 0;
        int turn = isWrong ? oftenIn(0, 13000) : turns.get(chance.nextInt(turns.size()));
        compare("play " + turn, due.play(turn), () -> game.play(turn));
    }

    private void ask() {
        int cell = oftenIn(0, due.cells() - 1);
        int place = oftenIn(0, Math.max(due.turns().size(), 1) - 1);
        int player = oftenIn(0, 1);
        switch (chance.nextInt(12)) {
            case 0 -> compare("onTurn", due.onTurn(), game::onTurn);
            case 1 -> compare("winner", due.winner(), game::winner);
            case 2 -> compare("height " + cell, due.height(cell), () -> game.height(cell));
            case 3 -> compare("builderAt " + cell, due.builderAt(cell), () -> game.builderAt(cell));
            case 4 -> compare("played", due.played(), game::played);
            case 5 -> compare("turnCount", due.turnCount(), game::turnCount);
            case 6 -> compare("turnAt " + place, due.turnAt(place), () -> game.turnAt(place));
            case 7 -> compare("reached " + player, due.reached(player), () -> game.reached(player));
            case 8 -> compare("place " + cell, due.place(cell), () -> game.place(cell));
            case 9 -> compare("takeBack", due.takeBack(), game::takeBack);
            default -> lookAhead();
        }
    }

    private void lookAhead() {
        int turns = oftenIn(0, 3);
        boolean isDear = turns == 2 || turns == 3 && due.cells() <= 8;
        if (isDear && due.turns().size() > MOST_TURNS_TO_LOOK_AHEAD) {
            turns = 1;
        }
        int ahead = turns;
        if (chance.nextBoolean()) {
            compare("worth " + ahead, due.worth(ahead), () -> game.worth(ahead));
        } else {
            compare("best " + ahead, due.best(ahead), () -> game.best(ahead));
        }
    }

    /** Mostly a number from least to most, at times one just beyond, seldom any number. */
    private int oftenIn(int least, int most) {
        int kind = chance.nextInt(40);
        if (kind == 0) {
            return chance.nextInt();
        }
        if (kind <= 2) {
            return kind == 1 ? least - 1 : most + 1;
        }
        return least + chance.nextInt(most - least + 1);
    }
}
