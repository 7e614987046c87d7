import java.util.ArrayList;
import java.util.Arrays;
import java.util.List;
import java.util.Random;

/** Each sentence of the promises that names a boundary, at the boundary and just beyond it. */
public final class PromiseEdgeTests extends Games {

    private static final int DOME = 4;
    private static final int LOWEST = Integer.MIN_VALUE;
    private static final int HIGHEST = Integer.MAX_VALUE;

    private static final long LONG_GAME = 37184;

    // Player 0 on cell 0 wins by 199, or goes on by 200 and 201; player 1 stands on cell 3.
    private static final int[] WIN_NEAR = {2, 3, 0, 2};

    public static void main(String[] args) {
        newObjectIs5By5();
        newObjectHasTwoBuildersEach();
        newObjectHasNoPowers();
        newObjectsShareNothing();
        beginAtTheEdges();
        beginBeyondTheEdges();
        beginLeavesACellFree();
        beginAgain();
        placeAtTheEdges();
        placeBeyondTheEdges();
        placeWhenAllArePlaced();
        placeOnABuilderOrDome();
        placeTellsWhoIsNext();
        placeEndsTheGame();
        raiseAtTheEdges();
        raiseBeyondTheEdges();
        raiseWhenAllArePlaced();
        raiseUnderABuilder();
        onTurnAllAlong();
        onTurnWhenOver();
        winnerAllAlong();
        heightAtTheEdges();
        builderAtTheEdges();
        playedAllAlong();
        turnCountAllAlong();
        turnAtTheEdges();
        turnAtWithoutPlaces();
        playWhatIsNoTurn();
        playWhenItIsNotPossible();
        playTellsTheWinner();
        takeBackWithoutTurns();
        takeBackOfEachEnd();
        takeBackOfAll();
        takeBackOfALongGame();
        worthAtTheEdges();
        worthOnLargeBoards();
        worthWhenItIsNotPossible();
        worthWithinTheTurns();
        worthOfALoss();
        bestAtTheEdges();
        bestWhenItIsNotPossible();
        bestIsTheLowest();
        bestWhenAllIsLost();
        reachedAtTheEdges();
        reachedAllAlong();
        worksForAllPromisedCalls();
        Due.end();
    }

    private static Maker nonePlaced() {
        return () -> game(2, 2, 1, 0, 0, WIN_NEAR);
    }

    private static Maker onePlaced() {
        return () -> game(2, 2, 1, 0, 0, WIN_NEAR, 0);
    }

    private static Maker allPlaced() {
        return () -> duel(2, 0, 0, WIN_NEAR, 0, 3);
    }

    private static Maker won() {
        return () -> behind(allPlaced().make(), 199);
    }

    private static Maker shutInAtTheFirst() {
        return () -> duel(2, 0, 0, new int[] {0, 2, DOME, 0}, 0, 3);
    }

    private static Maker shutInBehindATurn() {
        return () -> behind(duel(2, 6, 0, new int[] {0, 0, DOME, 0}, 0, 3), 150);
    }

    private static Maker[] allOver() {
        return new Maker[] {won(), shutInAtTheFirst(), shutInBehindATurn()};
    }

    // Promise 1: "Creates a game of 5 rows, 5 columns, two builders each, and no powers."

    private static void newObjectIs5By5() {
        Stormroof game = new Stormroof();
        for (int cell = 0; cell < 25; cell++) {
            int here = cell;
            Due.answer("new height " + cell, 0, () -> game.height(here));
            Due.answer("new builder " + cell, -1, () -> game.builderAt(here));
        }
        Due.outside("a 26th cell", () -> game.height(25));
        Stormroof placed = new Stormroof();
        for (int cell : new int[] {5, 24, 0, 20}) {
            placed.place(cell);
        }
        // Cell 5 is the begin of the second row only if there are 5 columns.
        comesTo("from cell 5", placed, 1, 6, 10, 11);
    }

    private static void newObjectHasTwoBuildersEach() {
        Stormroof game = new Stormroof();
        Due.notNow("no turns yet", game::turnCount);
        int[] then = {0, 1, 1, 0};
        for (int i = 0; i < 4; i++) {
            int cell = 6 * i;
            Due.answer("on turn with " + i, i < 2 ? 0 : 1, game::onTurn);
            Due.answer("place " + i, then[i], () -> game.place(cell));
        }
        refuses("a fifth", STATE, () -> {
            Stormroof full = new Stormroof();
            for (int i = 0; i < 4; i++) {
                full.place(6 * i);
            }
            return full;
        }, full -> full.place(24));
    }

    /** A new object, not begun again, with domes all over but for the cells told with their heights. */
    private static Stormroof newAmongDomes(int[] cells, int[] heights, int... placed) {
        int[] all = new int[25];
        Arrays.fill(all, DOME);
        for (int i = 0; i < cells.length; i++) {
            all[cells[i]] = heights[i];
        }
        return newWithHeights(all, placed);
    }

    private static Stormroof newWithHeights(int[] heights, int... placed) {
        Stormroof game = new Stormroof();
        for (int cell = 0; cell < heights.length; cell++) {
            game.raise(cell, heights[cell]);
        }
        for (int cell : placed) {
            game.place(cell);
        }
        return game;
    }

    // The second builders of both are shut in on cells 24 and 20.
    private static void newObjectHasNoPowers() {
        // From cell 0: 5 is two down, 10 two moves far, 1 has the other, and 2 is free beyond it.
        Stormroof first = newAmongDomes(new int[] {0, 1, 2, 5, 10, 20, 24}, new int[] {2, 0, 0, 0, 0, 0, 0},
                0, 24, 1, 20);
        turns("no second move, swap, push, leap or dome of player 0", first, 500, 510);
        // From cell 1: 0 and 5 are two down, 10 two moves far, 2 has the other, and 3 is free beyond it.
        Stormroof second = newAmongDomes(new int[] {0, 1, 2, 3, 5, 10, 20, 24}, new int[] {0, 2, 0, 0, 0, 0, 0, 0},
                3, 24, 1, 20);
        turns("the way of player 0 to cell 2", second, 203);
        second.play(203);
        turns("no second move, swap, push, leap or dome of player 1", second, 1, 5, 500, 501, 510);
        int[] heights = new int[25];
        heights[1] = 1;
        heights[2] = 2;
        heights[23] = 1;
        Stormroof climbs = newWithHeights(heights, 0, 20, 24, 4);
        climbs.play(100);
        comesTo("player 0 has climbed, and player 1 is not barred", climbs, 18, 19, 23);
        climbs.play(2324);
        comesTo("player 1 has climbed, and player 0 is not barred", climbs, 0, 2, 5, 6, 7);
    }

    private static void newObjectsShareNothing() {
        Stormroof one = allPlaced().make();
        Stormroof other = new Stormroof();
        other.begin(5, 5, 2, 6, 6);
        other.raise(0, 4);
        String before = seen(one);
        other.place(3);
        Due.is("another object has changed", seen(one), before);
        one.play(199);
        Due.answer("the other is not over", 0, other::onTurn);
        Due.answer("nor has it fewer cells", 0, () -> other.height(24));
    }

    // Promise 2: "rows: 2 to 5, columns: 2 to 5, builders: 1 or 2 for each player, ... power ..., 0 to 6",
    // "Returns number of cells."

    private static void beginAtTheEdges() {
        for (int rows = 2; rows <= 5; rows++) {
            for (int columns = 2; columns <= 5; columns++) {
                for (int builders = rows * columns == 4 ? 1 : 2; builders > 0; builders--) {
                    beginOne(rows, columns, builders);
                }
            }
        }
        for (int power = 0; power <= 6; power++) {
            int p = power;
            Stormroof game = new Stormroof();
            Due.answer("first " + p, 4, () -> game.begin(2, 2, 1, p, 0));
            Due.answer("second " + p, 4, () -> game.begin(2, 2, 1, 0, p));
            Due.answer("both " + p, 25, () -> game.begin(5, 5, 2, p, p));
        }
    }

    private static void beginOne(int rows, int columns, int builders) {
        String what = "begin " + rows + " " + columns + " " + builders;
        Stormroof game = new Stormroof();
        int cells = rows * columns;
        Due.answer(what, cells, () -> game.begin(rows, columns, builders, 0, 0));
        for (int cell = 0; cell < cells; cell++) {
            int here = cell;
            Due.answer(what + ", height " + cell, 0, () -> game.height(here));
            Due.answer(what + ", builder " + cell, -1, () -> game.builderAt(here));
        }
        Due.outside(what + ", one cell more", () -> game.height(cells));
        for (int i = 0; i < 2 * builders; i++) {
            int cell = i % 2 == 0 ? cells - 1 - i / 2 : i / 2;
            int then = i + 1 == 2 * builders ? 0 : (i + 1) / builders;
            Due.answer(what + ", place " + i, then, () -> game.place(cell));
        }
        Due.notNow(what + ", one builder more", () -> game.place(builders));
    }

    private static void beginBeyondTheEdges() {
        for (Maker maker : new Maker[] {nonePlaced(), onePlaced(), allPlaced(), won(),
            () -> behind(allPlaced().make(), 201)}) {
            for (int wrong : new int[] {LOWEST, -1, 0, 1, 6, HIGHEST}) {
                refuses("rows " + wrong, ARGUMENT, maker, game -> game.begin(wrong, 3, 1, 0, 0));
                refuses("columns " + wrong, ARGUMENT, maker, game -> game.begin(3, wrong, 1, 0, 0));
            }
            for (int wrong : new int[] {LOWEST, -1, 0, 3, HIGHEST}) {
                refuses("builders " + wrong, ARGUMENT, maker, game -> game.begin(5, 5, wrong, 0, 0));
            }
            for (int wrong : new int[] {LOWEST, -1, 7, HIGHEST}) {
                refuses("first " + wrong, ARGUMENT, maker, game -> game.begin(3, 3, 1, wrong, 0));
                refuses("second " + wrong, ARGUMENT, maker, game -> game.begin(3, 3, 1, 0, wrong));
            }
            // Products of these wrap round to numbers of cells that look possible.
            refuses("rows and columns", ARGUMENT, maker, game -> game.begin(1 << 16, (1 << 16) + 1, 1, 0, 0));
            refuses("negative rows and columns", ARGUMENT, maker, game -> game.begin(-3, -3, 1, 0, 0));
            refuses("builders that wrap round", ARGUMENT, maker, game -> game.begin(3, 3, (1 << 31) + 1, 0, 0));
        }
    }

    // "or all builders would leave no cell free"
    private static void beginLeavesACellFree() {
        for (int power = 0; power <= 6; power++) {
            int p = power;
            refuses("four builders on four cells", ARGUMENT, allPlaced(), game -> game.begin(2, 2, 2, p, p));
        }
        Stormroof game = new Stormroof();
        Due.answer("two builders on four cells", 4, () -> game.begin(2, 2, 1, 0, 0));
        Due.answer("four builders on 2 by 3 cells", 6, () -> game.begin(2, 3, 2, 0, 0));
        Due.answer("four builders on 3 by 2 cells", 6, () -> game.begin(3, 2, 2, 0, 0));
    }

    // "Begins another game; all heights are 0."
    private static void beginAgain() {
        Maker[] makers = {nonePlaced(), onePlaced(), allPlaced(), won(), shutInAtTheFirst(), shutInBehindATurn(),
            () -> duel(3, 4, 4, new int[] {0, 1, 1, 0, 0, 0}, 0, 5), Stormroof::new,
            () -> behind(duel(3, 4, 4, new int[] {0, 1, 1, 0, 0, 0}, 0, 5), 103)};
        for (Maker maker : makers) {
            Stormroof used = maker.make();
            Due.answer("begin again", 9, () -> used.begin(3, 3, 2, 1, 5));
            Stormroof fresh = game(3, 3, 2, 1, 5, FLAT_3_3);
            Due.is("a game behind another", seen(used), seen(fresh));
            Due.notNow("nothing can be taken back", used::takeBack);
            // To cell 1 player 0 climbs, if it is not barred from the game before.
            Due.answer("raise again", 0, () -> used.raise(1, 1));
            fresh.raise(1, 1);
            for (int cell : new int[] {0, 4, 6, 8}) {
                Due.answer("place " + cell, Integer.parseInt(Due.outcome(() -> fresh.place(cell))),
                        () -> used.place(cell));
            }
            Due.is("turns behind another game", turnsOf(used), turnsOf(fresh));
        }
    }

    // Promise 3: "Places the next builder of the player who is to place."

    private static void placeAtTheEdges() {
        Stormroof game = game(5, 5, 2, 0, 0, new int[25]);
        Due.answer("the first cell", 0, () -> game.place(0));
        Due.answer("the last cell", 1, () -> game.place(24));
        Due.answer("who is in the first", 0, () -> game.builderAt(0));
        Due.answer("who is in the last", 1, () -> game.builderAt(24));
        for (int height = 0; height <= 3; height++) {
            Stormroof high = game(2, 2, 1, 0, 0, new int[] {height, 0, 0, 0});
            Due.answer("on height " + height, 1, () -> high.place(0));
            Due.answer("nobody has won by that", -1, high::winner);
            Due.answer("the height stays", height, () -> high.height(0));
            Due.answer("it counts", height, () -> high.reached(0));
        }
    }

    private static void placeBeyondTheEdges() {
        for (int cell : new int[] {LOWEST, -1, 4, 24, 25, HIGHEST}) {
            refuses("place " + cell + ", none placed", INDEX, nonePlaced(), game -> game.place(cell));
            refuses("place " + cell + ", one placed", INDEX, onePlaced(), game -> game.place(cell));
            refuses("place " + cell + ", all placed", INDEX, allPlaced(), game -> game.place(cell));
            refuses("place " + cell + ", game over", INDEX, won(), game -> game.place(cell));
        }
        refuses("place 25 in a new object", INDEX, Stormroof::new, game -> game.place(25));
        refuses("place 6 of 2 by 3", INDEX, () -> game(2, 3, 1, 0, 0, FLAT_2_3), game -> game.place(6));
    }

    private static void placeWhenAllArePlaced() {
        for (int cell = 0; cell < 4; cell++) {
            int here = cell;
            refuses("place " + cell, STATE, allPlaced(), game -> game.place(here));
            refuses("place " + cell + " behind a turn", STATE, () -> behind(allPlaced().make(), 201),
                    game -> game.place(here));
            for (Maker over : allOver()) {
                refuses("place " + cell + ", game over", STATE, over, game -> game.place(here));
            }
        }
        Stormroof back = behind(allPlaced().make(), 201);
        back.takeBack();
        Due.notNow("place when all is taken back", () -> back.place(1));
    }

    private static void placeOnABuilderOrDome() {
        refuses("on the first", STATE, onePlaced(), game -> game.place(0));
        refuses("on a dome", STATE, () -> game(2, 2, 1, 0, 0, new int[] {DOME, 0, 0, 0}), game -> game.place(0));
        Maker three = () -> game(2, 3, 2, 0, 0, new int[] {0, 0, 0, 3, DOME, 0}, 0, 1, 2);
        for (int cell : new int[] {0, 1, 2, 4}) {
            refuses("the fourth on cell " + cell, STATE, three, game -> game.place(cell));
        }
        Due.answer("the fourth on height 3", 0, () -> three.make().place(3));
        int[] full = new int[25];
        Arrays.fill(full, DOME);
        for (int cell = 0; cell < 25; cell++) {
            Stormroof game = game(5, 5, 1, 0, 0, full);
            int here = cell;
            Due.notNow("on a board full of domes, cell " + cell, () -> game.place(here));
            game.raise(cell, 3);
            Due.answer("when it is lower, cell " + cell, 1, () -> game.place(here));
        }
    }

    // "Returns the player who is to place, or whose turn it is then"
    private static void placeTellsWhoIsNext() {
        Stormroof one = game(2, 2, 1, 0, 0, FLAT_2_2);
        Due.answer("the first of one each", 1, () -> one.place(0));
        Due.answer("the last of one each", 0, () -> one.place(1));
        Stormroof two = game(2, 3, 2, 0, 0, FLAT_2_3);
        Due.answer("the first of two each", 0, () -> two.place(0));
        Due.answer("the second of two each", 1, () -> two.place(1));
        Due.answer("the third of two each", 1, () -> two.place(2));
        Due.answer("the last of two each", 0, () -> two.place(3));
    }

    // "-1 if the game is over by that, as player 0 has no turn"
    private static void placeEndsTheGame() {
        Stormroof game = game(2, 2, 1, 0, 0, new int[] {0, 2, DOME, 0}, 0);
        Due.answer("player 0 is shut in, but not all are placed", -1, game::winner);
        Due.answer("player 1 is to place", 1, game::onTurn);
        Due.answer("the last", -1, () -> game.place(3));
        Due.answer("winner", 1, game::winner);
        Stormroof two = game(2, 3, 2, 0, 0, new int[] {0, 0, 0, DOME, DOME, 0}, 0, 1, 5);
        Due.answer("shut in by the last builder", -1, () -> two.place(2));
        Due.answer("winner of that", 1, two::winner);
        Stormroof free = game(2, 3, 2, 2, 0, new int[] {0, 0, 0, DOME, DOME, 0}, 0, 1, 5);
        Due.answer("not if it swaps, but there is nothing to build on", -1, () -> free.place(2));
    }

    // Promise 4: "height: 0 to 4", "Returns the height before."

    private static void raiseAtTheEdges() {
        for (int before = 0; before <= DOME; before++) {
            for (int then = 0; then <= DOME; then++) {
                int b = before;
                int t = then;
                Stormroof game = game(5, 5, 1, 0, 0, new int[25]);
                for (int cell : new int[] {0, 24}) {
                    Due.answer("from the first height", 0, () -> game.raise(cell, b));
                    Due.answer("to " + t + " from " + b, b, () -> game.raise(cell, t));
                    Due.answer("the height", t, () -> game.height(cell));
                }
                Due.answer("no other cell", 0, () -> game.height(1));
                Due.answer("who is to place", 0, game::onTurn);
            }
        }
        Due.answer("in a new object", 0, () -> new Stormroof().raise(24, 4));
        Stormroof three = game(2, 3, 2, 0, 0, FLAT_2_3, 0, 1, 2);
        Due.answer("when one is left to place", 0, () -> three.raise(3, 4));
        Due.answer("and another", 0, () -> three.raise(4, 1));
        Due.answer("and back", 4, () -> three.raise(3, 0));
    }

    private static void raiseBeyondTheEdges() {
        for (int cell : new int[] {LOWEST, -1, 4, 24, 25, HIGHEST}) {
            refuses("raise cell " + cell, INDEX, nonePlaced(), game -> game.raise(cell, 1));
            refuses("raise cell " + cell + ", one placed", INDEX, onePlaced(), game -> game.raise(cell, 1));
            refuses("raise cell " + cell + ", all placed", INDEX, allPlaced(), game -> game.raise(cell, 1));
        }
        for (int height : new int[] {LOWEST, -1, 5, HIGHEST}) {
            refuses("raise to " + height, ARGUMENT, nonePlaced(), game -> game.raise(3, height));
            refuses("raise to " + height + ", one placed", ARGUMENT, onePlaced(), game -> game.raise(3, height));
        }
    }

    private static void raiseWhenAllArePlaced() {
        for (int cell = 0; cell < 4; cell++) {
            for (int height = 0; height <= DOME; height++) {
                int c = cell;
                int h = height;
                refuses("raise " + c + " to " + h, STATE, allPlaced(), game -> game.raise(c, h));
                refuses("raise " + c + " to " + h + ", game over", STATE, won(), game -> game.raise(c, h));
                refuses("raise " + c + " to " + h + ", shut in", STATE, shutInAtTheFirst(), game -> game.raise(c, h));
            }
        }
        Stormroof back = behind(allPlaced().make(), 201);
        back.takeBack();
        Due.notNow("raise when all is taken back", () -> back.raise(1, 1));
    }

    private static void raiseUnderABuilder() {
        for (int height = 0; height <= DOME; height++) {
            int h = height;
            refuses("raise under a builder to " + h, STATE, onePlaced(), game -> game.raise(0, h));
            Maker three = () -> game(2, 3, 2, 0, 0, new int[] {1, 2, 3, 0, 0, 0}, 0, 1, 2);
            for (int cell = 0; cell < 3; cell++) {
                int here = cell;
                refuses("raise under builder " + cell + " to " + h, STATE, three, game -> game.raise(here, h));
            }
        }
    }

    // Promise 5: "Returns 0 or 1, -1 if the game is over."

    private static void onTurnAllAlong() {
        Stormroof game = game(3, 3, 1, 0, 0, FLAT_3_3);
        Due.answer("none placed", 0, game::onTurn);
        game.place(0);
        Due.answer("one placed", 1, game::onTurn);
        game.place(8);
        Due.answer("all placed", 0, game::onTurn);
        game.play(100);
        Due.answer("behind one turn", 1, game::onTurn);
        game.takeBack();
        Due.answer("taken back", 0, game::onTurn);
        onlyTells("asking twice", 0, allPlaced(), asked -> asked.onTurn() + asked.onTurn());
    }

    private static void onTurnWhenOver() {
        for (Maker over : allOver()) {
            onlyTells("on turn when over", -1, over, Stormroof::onTurn);
        }
    }

    // Promise 6: "Returns 0 or 1, -1 if the game is not over."

    private static void winnerAllAlong() {
        onlyTells("in a new object", -1, Stormroof::new, Stormroof::winner);
        onlyTells("none placed", -1, nonePlaced(), Stormroof::winner);
        onlyTells("one placed", -1, onePlaced(), Stormroof::winner);
        onlyTells("all placed", -1, allPlaced(), Stormroof::winner);
        onlyTells("behind a turn", -1, () -> behind(allPlaced().make(), 201), Stormroof::winner);
        onlyTells("won", 0, won(), Stormroof::winner);
        onlyTells("shut in at the first", 1, shutInAtTheFirst(), Stormroof::winner);
        onlyTells("shut in behind a turn", 0, shutInBehindATurn(), Stormroof::winner);
        Maker second = () -> behind(duel(3, 0, 0, new int[] {0, 0, 0, 0, 3, 2}, 0, 5), 100, 499);
        onlyTells("won by player 1", 1, second, Stormroof::winner);
        Stormroof back = second.make();
        back.takeBack();
        Due.answer("taken back", -1, back::winner);
    }

    // Promises 7 and 8: "if there is no such cell"

    private static void heightAtTheEdges() {
        Maker maker = () -> duel(3, 0, 0, new int[] {3, 0, 1, DOME, 0, 2}, 0, 5);
        int[] due = {3, 0, 1, DOME, 0, 2};
        for (int cell = 0; cell < 6; cell++) {
            int here = cell;
            onlyTells("height " + cell, due[cell], maker, game -> game.height(here));
        }
        for (int cell : new int[] {LOWEST, -1, 6, 24, 25, HIGHEST}) {
            refuses("height " + cell, INDEX, maker, game -> game.height(cell));
            refuses("height " + cell + ", game over", INDEX, won(), game -> game.height(cell));
        }
        for (int cell : new int[] {-1, 25}) {
            refuses("height " + cell + " in a new object", INDEX, Stormroof::new, game -> game.height(cell));
        }
        onlyTells("height 24 in a new object", 0, Stormroof::new, game -> game.height(24));
    }

    private static void builderAtTheEdges() {
        Maker maker = () -> game(2, 3, 2, 0, 0, FLAT_2_3, 5, 0, 3, 1);
        int[] due = {1, 11, -1, 10, -1, 0};
        for (int cell = 0; cell < 6; cell++) {
            int here = cell;
            onlyTells("builderAt " + cell, due[cell], maker, game -> game.builderAt(here));
        }
        for (int cell : new int[] {LOWEST, -1, 6, 24, 25, HIGHEST}) {
            refuses("builderAt " + cell, INDEX, maker, game -> game.builderAt(cell));
            refuses("builderAt " + cell + ", game over", INDEX, won(), game -> game.builderAt(cell));
        }
        for (int cell : new int[] {-1, 25}) {
            refuses("builderAt " + cell + " in a new object", INDEX, Stormroof::new, game -> game.builderAt(cell));
        }
        onlyTells("builderAt 24 in a new object", -1, Stormroof::new, game -> game.builderAt(24));
    }

    // Promise 9: "how many turns have been played and not taken back"

    private static void playedAllAlong() {
        onlyTells("in a new object", 0, Stormroof::new, Stormroof::played);
        onlyTells("all placed", 0, allPlaced(), Stormroof::played);
        onlyTells("won", 1, won(), Stormroof::played);
        onlyTells("shut in at the first", 0, shutInAtTheFirst(), Stormroof::played);
        Stormroof game = duel(3, 0, 0, FLAT_3_3, 0, 8);
        for (int i = 0; i < 5; i++) {
            Due.answer("behind " + i, i, game::played);
            game.play(game.turnAt(0));
        }
        for (int i = 4; i >= 0; i--) {
            game.takeBack();
            Due.answer("back to " + i, i, game::played);
        }
        Due.outcome(game::takeBack);
        Due.answer("no further back", 0, game::played);
    }

    // Promise 10: "Returns the number, 0 when the game is over.", "if not all builders are placed"

    private static void turnCountAllAlong() {
        refuses("in a new object", STATE, Stormroof::new, Stormroof::turnCount);
        refuses("none placed", STATE, nonePlaced(), Stormroof::turnCount);
        refuses("one placed", STATE, onePlaced(), Stormroof::turnCount);
        refuses("three placed", STATE, () -> game(2, 3, 2, 0, 0, FLAT_2_3, 0, 1, 2), Stormroof::turnCount);
        onlyTells("all placed", 3, allPlaced(), Stormroof::turnCount);
        for (Maker over : allOver()) {
            onlyTells("game over", 0, over, Stormroof::turnCount);
        }
        Due.answer("one turn", 1, duel(2, 0, 0, new int[] {0, 0, DOME, 0}, 0, 3)::turnCount);
        // All 25 cells together have 144 neighbours; 8 fall away for the cell it leaves, 3 for the other's
        // cell 0, as it does not come there, and 3 as it does not build on that one.
        Due.answer("many turns by the power 1", 130, duel(5, 1, 0, new int[25], 12, 0)::turnCount);
    }

    // Promise 11: "0 for the turn with the lowest number", "if there is no such place, and all builders are placed"

    private static void turnAtTheEdges() {
        int[] due = {199, 200, 201};
        for (int place = 0; place < 3; place++) {
            int here = place;
            onlyTells("turnAt " + place, due[place], allPlaced(), game -> game.turnAt(here));
        }
        for (int place : new int[] {LOWEST, -1, 3, 4, 100, HIGHEST}) {
            refuses("turnAt " + place, INDEX, allPlaced(), game -> game.turnAt(place));
        }
        Stormroof game = behind(allPlaced().make(), 201);
        Due.outside("as many places as before are too many", () -> game.turnAt(game.turnCount()));
        // Builder 1 comes from cell 13 to cell 24 by way of 18 or 19, and builds on 23 at the highest.
        Stormroof wide = game(5, 5, 2, 1, 0, new int[25], 12, 13, 1, 21);
        int count = wide.turnCount();
        Due.answer("the last of many", 12423, () -> wide.turnAt(count - 1));
        Due.outside("behind the last of many", () -> wide.turnAt(count));
    }

    private static void turnAtWithoutPlaces() {
        for (int place : new int[] {LOWEST, -1, 0, 1, HIGHEST}) {
            for (Maker over : allOver()) {
                refuses("turnAt " + place + ", game over", INDEX, over, game -> game.turnAt(place));
            }
            refuses("turnAt " + place + " in a new object", STATE, Stormroof::new, game -> game.turnAt(place));
            refuses("turnAt " + place + ", none placed", STATE, nonePlaced(), game -> game.turnAt(place));
            refuses("turnAt " + place + ", one placed", STATE, onePlaced(), game -> game.turnAt(place));
        }
    }

    // Promise 12: "if not all builders are placed, the game is over, or the player has no such turn"

    private static void playWhatIsNoTurn() {
        int[] wrong = {LOWEST, -10200, -201, -199, -1, 0, 1, 2, 3, 99, 100, 101, 102, 103, 149, 150, 198, 202, 203, 250,
            251, 299, 300, 301, 302, 399, 400, 10199, 10200, 10201, 100200, 1000201, HIGHEST};
        for (int turn : wrong) {
            refuses("play " + turn, STATE, allPlaced(), game -> game.play(turn));
        }
        for (int turn : new int[] {199, 200, 201, 301, 10303}) {
            refuses("play " + turn + ", which is not player 1's", STATE, () -> behind(allPlaced().make(), 201),
                    game -> game.play(turn));
        }
        for (int turn : new int[] {199, 200, 201}) {
            Due.answer("play " + turn, turn == 199 ? 0 : -1, () -> allPlaced().make().play(turn));
        }
    }

    private static void playWhenItIsNotPossible() {
        for (int turn : new int[] {-1, 0, 99, 100, 199, 200, 201}) {
            refuses("play " + turn + " in a new object", STATE, Stormroof::new, game -> game.play(turn));
            refuses("play " + turn + ", none placed", STATE, nonePlaced(), game -> game.play(turn));
            refuses("play " + turn + ", one placed", STATE, onePlaced(), game -> game.play(turn));
            for (Maker over : allOver()) {
                refuses("play " + turn + ", game over", STATE, over, game -> game.play(turn));
            }
        }
    }

    // "Returns the winner, -1 if the game is not over by it."
    private static void playTellsTheWinner() {
        Due.answer("not over", -1, () -> allPlaced().make().play(201));
        Due.answer("won by a move", 0, () -> allPlaced().make().play(199));
        Due.answer("won, as the other has no turn", 0,
                () -> duel(2, 6, 0, new int[] {0, 0, DOME, 0}, 0, 3).play(150));
        Stormroof second = behind(duel(3, 0, 0, new int[] {0, 0, 0, 0, 3, 2}, 0, 5), 100);
        Due.answer("player 1 wins by a move", 1, () -> second.play(499));
        Stormroof shut = behind(duel(2, 0, 6, new int[] {0, 0, DOME, 0}, 0, 3), 100);
        Due.answer("player 1 wins, as player 0 has no turn", 1, () -> shut.play(53));
    }

    // Promise 13: "Takes the latest turn back.", "if no turn is left"

    private static void takeBackWithoutTurns() {
        refuses("in a new object", STATE, Stormroof::new, Stormroof::takeBack);
        refuses("none placed", STATE, nonePlaced(), Stormroof::takeBack);
        refuses("one placed", STATE, onePlaced(), Stormroof::takeBack);
        refuses("all placed", STATE, allPlaced(), Stormroof::takeBack);
        refuses("shut in at the first", STATE, shutInAtTheFirst(), Stormroof::takeBack);
        refuses("all taken back", STATE, () -> {
            Stormroof game = behind(allPlaced().make(), 201);
            game.takeBack();
            return game;
        }, Stormroof::takeBack);
    }

    private static void takeBackOfEachEnd() {
        Due.is("a win", seenBehindTakeBack(won()), seen(allPlaced().make()));
        Due.is("a shutting in", seenBehindTakeBack(shutInBehindATurn()),
                seen(duel(2, 6, 0, new int[] {0, 0, DOME, 0}, 0, 3)));
        Maker second = () -> behind(duel(2, 0, 6, new int[] {0, 0, DOME, 0}, 0, 3), 100);
        Due.is("a shutting in by player 1", seenBehindTakeBack(() -> behind(second.make(), 53)), seen(second.make()));
        Stormroof other = won().make();
        Due.answer("the turns left", 0, other::takeBack);
        Due.answer("another turn instead", -1, () -> other.play(201));
        Due.is("what is played instead", seen(other), seen(behind(allPlaced().make(), 201)));
    }

    private static String seenBehindTakeBack(Maker maker) {
        Stormroof game = maker.make();
        game.takeBack();
        return seen(game);
    }

    /** A long game on the largest board, from which all is taken back, within the promised calls. */
    private static void takeBackOfAll() {
        for (int power = 0; power <= 6; power++) {
            Stormroof game = game(5, 5, 2, power, 6 - power, new int[25], 6, 8, 16, 18);
            List<String> states = new ArrayList<>();
            while (game.winner() == -1 && states.size() < 30) {
                states.add(shortlySeen(game));
                game.play(game.turnAt(states.size() * 11 % game.turnCount()));
            }
            for (int left = states.size() - 1; left >= 0; left--) {
                Due.answer("turns left with power " + power, left, game::takeBack);
                Due.is("state " + left + " with power " + power, shortlySeen(game), states.get(left));
            }
            Due.notNow("no turn left with power " + power, game::takeBack);
        }
    }

    /** Nobody wins as long as there is another turn, so that the board fills; it stays within the promised calls. */
    private static void takeBackOfALongGame() {
        Random chance = new Random(LONG_GAME);
        int[] placed = {6, 8, 16, 18};
        Stormroof game = game(5, 5, 2, 0, 0, new int[0], placed);
        int count = game.turnCount();
        while (count > 0) {
            int turn = game.turnAt(chance.nextInt(count));
            game.play(turn % 100 == 99 ? game.turnAt(0) : turn);
            count = game.turnCount();
        }
        Due.answer("turns of a long game", 89, game::played);
        Due.answer("nobody is on turn behind it", -1, game::onTurn);
        for (int left = 88; left >= 0; left--) {
            Due.answer("turns left of a long game", left, game::takeBack);
        }
        for (int cell = 0; cell < 25; cell++) {
            int here = cell;
            Due.answer("height at its begin " + cell, 0, () -> game.height(here));
        }
        for (int i = 0; i < 4; i++) {
            int cell = placed[i];
            Due.answer("builder at its begin " + i, i / 2 * 10 + i % 2, () -> game.builderAt(cell));
        }
        Due.answer("turns at its begin", turnsOf(game(5, 5, 2, 0, 0, new int[0], placed)).size(), game::turnCount);
    }

    private static String shortlySeen(Stormroof game) {
        return game.reached(0) + " " + game.reached(1) + " " + game.onTurn() + " " + game.turnCount();
    }

    // Promise 14: "turns: 0 to 3"

    private static void worthAtTheEdges() {
        onlyTells("worth 0, though a win is near", 0, allPlaced(), game -> game.worth(0));
        for (int turns = 1; turns <= 3; turns++) {
            int ahead = turns;
            onlyTells("worth " + turns, 1, allPlaced(), game -> game.worth(ahead));
        }
        for (int turns : new int[] {LOWEST, -1, 4, HIGHEST}) {
            refuses("worth " + turns, ARGUMENT, allPlaced(), game -> game.worth(turns));
        }
    }

    // "or turns is 3 and the board has more than 8 cells"
    private static void worthOnLargeBoards() {
        int[][] boards = {{2, 2}, {2, 3}, {3, 2}, {2, 4}, {4, 2}, {3, 3}, {2, 5}, {5, 2}, {3, 4}, {5, 5}};
        for (int[] board : boards) {
            int cells = board[0] * board[1];
            Maker maker = () -> game(board[0], board[1], 1, 0, 0, new int[cells], 0, cells - 1);
            String what = " on " + board[0] + " by " + board[1];
            onlyTells("worth 2" + what, 0, maker, game -> game.worth(2));
            onlyTells("best 2" + what, 100, maker, game -> game.best(2));
            if (cells <= 8) {
                onlyTells("worth 3" + what, 0, maker, game -> game.worth(3));
                onlyTells("best 3" + what, 100, maker, game -> game.best(3));
            } else {
                refuses("worth 3" + what, STATE, maker, game -> game.worth(3));
                refuses("best 3" + what, STATE, maker, game -> game.best(3));
                refuses("worth 4" + what, ARGUMENT, maker, game -> game.worth(4));
            }
        }
    }

    private static void worthWhenItIsNotPossible() {
        for (int turns = 0; turns <= 3; turns++) {
            int ahead = turns;
            refuses("worth " + turns + " in a new object", STATE, Stormroof::new, game -> game.worth(ahead));
            refuses("worth " + turns + ", none placed", STATE, nonePlaced(), game -> game.worth(ahead));
            refuses("worth " + turns + ", one placed", STATE, onePlaced(), game -> game.worth(ahead));
            for (Maker over : allOver()) {
                refuses("worth " + turns + ", game over", STATE, over, game -> game.worth(ahead));
            }
        }
    }

    // "Returns 1 if the player on turn can force to win within them"
    private static void worthWithinTheTurns() {
        Maker inOne = () -> duel(2, 6, 0, new int[] {0, 0, DOME, 0}, 0, 3);
        int[] one = {0, 1, 1, 1};
        // From cell 2 it wins on 1 or on 4, and player 1 can build on but one of them.
        Maker inThree = () -> duel(3, 0, 0, new int[] {1, 3, 2, 0, 3, 1}, 5, 3);
        int[] three = {0, 0, 0, 1};
        for (int turns = 0; turns <= 3; turns++) {
            int ahead = turns;
            onlyTells("a win in one, seen " + turns + " ahead", one[turns], inOne, game -> game.worth(ahead));
            onlyTells("a win in three, seen " + turns + " ahead", three[turns], inThree, game -> game.worth(ahead));
        }
    }

    // "-1 if the other player can"
    private static void worthOfALoss() {
        // Player 1 leaps down from cell 0, and player 0 can build on but one cell beside it.
        Maker inTwo = () -> duel(2, 0, 5, new int[] {2, 0, 0, 0}, 3, 0);
        int[] two = {0, 0, -1, -1};
        // The fork again, behind its first turn: player 1 is on turn.
        Maker forked = () -> behind(duel(3, 0, 0, new int[] {1, 3, 2, 0, 3, 1}, 5, 3), 205);
        for (int turns = 0; turns <= 3; turns++) {
            int ahead = turns;
            onlyTells("a loss in two, seen " + turns + " ahead", two[turns], inTwo, game -> game.worth(ahead));
            onlyTells("a fork, seen " + turns + " ahead", two[turns], forked, game -> game.worth(ahead));
        }
        // Each turn of player 0 ends in the pit 1, which it cannot leave: it has no turn behind player 1's.
        Maker pit = () -> duel(4, 0, 0, new int[] {2, 0, DOME, 0, DOME, DOME, DOME, 0}, 0, 7);
        for (int turns = 0; turns <= 3; turns++) {
            int ahead = turns;
            onlyTells("a pit, seen " + turns + " ahead", two[turns], pit, game -> game.worth(ahead));
        }
    }

    // Promise 15: "turns: 1 to 3, of which this turn is one"

    private static void bestAtTheEdges() {
        for (int turns = 1; turns <= 3; turns++) {
            int ahead = turns;
            onlyTells("best " + turns, 199, allPlaced(), game -> game.best(ahead));
        }
        for (int turns : new int[] {LOWEST, -1, 0, 4, HIGHEST}) {
            refuses("best " + turns, ARGUMENT, allPlaced(), game -> game.best(turns));
        }
    }

    private static void bestWhenItIsNotPossible() {
        for (int turns = 1; turns <= 3; turns++) {
            int ahead = turns;
            refuses("best " + turns + " in a new object", STATE, Stormroof::new, game -> game.best(ahead));
            refuses("best " + turns + ", none placed", STATE, nonePlaced(), game -> game.best(ahead));
            refuses("best " + turns + ", one placed", STATE, onePlaced(), game -> game.best(ahead));
            for (Maker over : allOver()) {
                refuses("best " + turns + ", game over", STATE, over, game -> game.best(ahead));
            }
        }
    }

    // "Returns the lowest number of such a turn."
    private static void bestIsTheLowest() {
        // Wins on 3 and on 4, and other turns before, between and behind them.
        Maker twoWins = () -> duel(3, 0, 0, new int[] {2, 0, 0, 3, 3, 0}, 0, 5);
        onlyTells("the first of two wins", 399, twoWins, game -> game.best(1));
        onlyTells("the first of two wins, two ahead", 399, twoWins, game -> game.best(2));
        // 400 wins at once by shutting in player 1, but 105 wins too, in three turns.
        Maker slow = () -> duel(3, 0, 0, new int[] {1, 2, 3, 0, 0, 1}, 5, 3);
        onlyTells("the fast one", 400, slow, game -> game.best(1));
        onlyTells("the lower one, though slower", 105, slow, game -> game.best(3));
        // Player 1 on cell 3 wins on cell 4, unless player 0 builds there.
        Maker threat = () -> duel(3, 0, 0, new int[] {0, 0, 0, 2, 3, 0}, 2, 3);
        onlyTells("the first of all when nothing is seen", 100, threat, game -> game.best(1));
        onlyTells("the first that does not lose", 104, threat, game -> game.best(2));
        onlyTells("worth of that", 0, threat, game -> game.worth(2));
        // Player 1 on cell 0 wins on cell 1, and player 0 can come to cell 4 only, beside it.
        Maker first = () -> duel(3, 0, 0, new int[] {2, 3, DOME, 0, 0, 0}, 5, 0);
        turns("turns, of which the first is the only one that does not lose", first.make(), 401, 403, 405);
        onlyTells("only the first does not lose", 401, first, game -> game.best(2));
        onlyTells("worth of the first", 0, first, game -> game.worth(2));
    }

    private static void bestWhenAllIsLost() {
        Maker lost = () -> duel(2, 0, 5, new int[] {2, 0, 0, 0}, 3, 0);
        onlyTells("no loss is seen", 102, lost, game -> game.best(1));
        onlyTells("the first, as all lose", 102, lost, game -> game.best(2));
        onlyTells("the first, as all lose, three ahead", 102, lost, game -> game.best(3));
        onlyTells("the only turn", 100, () -> duel(4, 0, 0, new int[] {2, 0, DOME, 0, DOME, DOME, DOME, 0}, 0, 7),
                game -> game.best(2));
    }

    // Promise 16: "the sum of the heights of the cells of its builders that are placed", "if there is no such player"

    private static void reachedAtTheEdges() {
        Maker[] makers = {Stormroof::new, nonePlaced(), onePlaced(), allPlaced(), won(), shutInAtTheFirst()};
        for (Maker maker : makers) {
            for (int player : new int[] {LOWEST, -1, 2, 10, HIGHEST}) {
                refuses("reached " + player, INDEX, maker, game -> game.reached(player));
            }
        }
        onlyTells("new, player 0", 0, Stormroof::new, game -> game.reached(0));
        onlyTells("new, player 1", 0, Stormroof::new, game -> game.reached(1));
        Maker most = () -> game(2, 3, 2, 0, 0, new int[] {3, 3, 3, 3, 3, 3}, 0, 1, 4, 5);
        onlyTells("the most, player 0", 6, most, game -> game.reached(0));
        onlyTells("the most, player 1", 6, most, game -> game.reached(1));
        Maker one = () -> game(2, 3, 1, 0, 0, new int[] {1, 2, 3, 3, 3, 2}, 0, 5);
        onlyTells("one builder, player 0", 1, one, game -> game.reached(0));
        onlyTells("one builder, player 1", 2, one, game -> game.reached(1));
    }

    private static void reachedAllAlong() {
        Stormroof game = game(2, 3, 2, 0, 0, new int[] {1, 2, 3, 0, 0, 1});
        int[] cells = {2, 0, 1, 5};
        int[][] due = {{3, 0}, {4, 0}, {4, 2}, {4, 3}};
        for (int i = 0; i < 4; i++) {
            game.place(cells[i]);
            Due.answer("player 0 with " + (i + 1), due[i][0], () -> game.reached(0));
            Due.answer("player 1 with " + (i + 1), due[i][1], () -> game.reached(1));
        }
        game.play(402);
        Due.answer("behind a move down", 1, () -> game.reached(0));
        Due.answer("the other's stays", 3, () -> game.reached(1));
        game.takeBack();
        Due.answer("taken back", 4, () -> game.reached(0));
        Due.answer("behind a win", 3, () -> won().make().reached(0));
    }

    // "An object is used for at most 512 calls after it has been made"
    private static void worksForAllPromisedCalls() {
        Stormroof game = allPlaced().make();
        // It takes 7 calls to make it, so that 504 of play and takeBack stay within 512.
        for (int i = 0; i < 252; i++) {
            Due.answer("play " + i, -1, () -> game.play(201));
            Due.answer("takeBack " + i, 0, game::takeBack);
        }
        Due.answer("the last promised call", 0, () -> game.play(199));
    }
}
