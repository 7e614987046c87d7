/** What the document promises, promise by promise, on boards small enough to follow by hand. */
public final class PromiseTests extends Games {

    public static void main(String[] args) {
        newObject();
        begin();
        beginRefuses();
        place();
        raise();
        onTurnAndWinner();
        heightAndBuilderAt();
        played();
        moving();
        building();
        movesTwice();
        swaps();
        pushes();
        barsClimbing();
        winsByLeap();
        buildsDomes();
        turnCountAndTurnAt();
        play();
        losesWithoutTurn();
        takeBack();
        takeBackRestoresPowers();
        worth();
        best();
        aheadRefuses();
        reached();
        Due.end();
    }

    private static void newObject() {
        Stormroof game = new Stormroof();
        for (int cell = 0; cell < 25; cell++) {
            int here = cell;
            Due.answer("new height " + cell, 0, () -> game.height(here));
            Due.answer("new builderAt " + cell, -1, () -> game.builderAt(here));
        }
        Due.outside("new height 25", () -> game.height(25));
        Due.answer("new onTurn", 0, game::onTurn);
        Due.answer("new winner", -1, game::winner);
        Due.answer("new played", 0, game::played);
        Due.answer("new reached", 0, () -> game.reached(0));
        Due.answer("new, first builder", 0, () -> game.place(12));
        Due.answer("new, second builder", 1, () -> game.place(0));
        Due.answer("new, third builder", 1, () -> game.place(24));
        Due.answer("new, fourth builder", 0, () -> game.place(4));
        // From the middle 61 turns, from the corner 17: with any power but 4 or 5 there were more.
        Due.answer("new, turns of player 0", 78, game::turnCount);
        Due.answer("new, a turn", -1, () -> game.play(601));
        // From corner 24: 19 has 5 cells to build, 23 has 5, 18 has 8. From corner 4: 3 and 9 have 5, 8 has 8.
        Due.answer("new, turns of player 1", 36, game::turnCount);
    }

    private static void begin() {
        Stormroof game = new Stormroof();
        for (int rows = 2; rows <= 5; rows++) {
            for (int columns = 2; columns <= 5; columns++) {
                int r = rows;
                int c = columns;
                Due.answer("begin " + r + " " + c, r * c, () -> game.begin(r, c, 1, 0, 0));
                Due.answer("last cell", 0, () -> game.height(r * c - 1));
                Due.outside("behind the last cell", () -> game.height(r * c));
            }
        }
        for (int power = 0; power <= 6; power++) {
            int p = power;
            Due.answer("begin with power " + p, 6, () -> game.begin(2, 3, 2, p, 6 - p));
        }
        Stormroof used = duel(2, 0, 0, new int[] {2, 3, 0, 1}, 0, 3);
        used.play(199);
        Due.answer("begin behind a game", 6, () -> used.begin(3, 2, 1, 0, 0));
        Due.answer("onTurn then", 0, used::onTurn);
        Due.answer("winner then", -1, used::winner);
        Due.answer("played then", 0, used::played);
        Due.answer("height then", 0, () -> used.height(1));
        Due.answer("builderAt then", -1, () -> used.builderAt(1));
        Due.answer("reached then", 0, () -> used.reached(0));
        Due.notNow("takeBack then", used::takeBack);
        Due.notNow("turnCount then", used::turnCount);
        Due.answer("place then", 1, () -> used.place(0));
        Due.answer("place then", 0, () -> used.place(5));
        // Three rows of two cells: cell 0 touches 1, 2 and 3.
        turns("turns then", used, 100, 102, 103, 200, 201, 203, 204, 300, 301, 302, 304);
    }

    private static void beginRefuses() {
        Stormroof game = duel(2, 0, 0, new int[] {0, 1, 0, 0}, 0, 3);
        game.play(201);
        for (int wrong : new int[] {-1, 1, 6, Integer.MIN_VALUE, Integer.MAX_VALUE}) {
            Due.wrongArgument("rows " + wrong, () -> game.begin(wrong, 5, 1, 0, 0));
            Due.wrongArgument("columns " + wrong, () -> game.begin(5, wrong, 1, 0, 0));
        }
        for (int wrong : new int[] {-1, 0, 3, Integer.MIN_VALUE, Integer.MAX_VALUE}) {
            Due.wrongArgument("builders " + wrong, () -> game.begin(5, 5, wrong, 0, 0));
        }
        for (int wrong : new int[] {-1, 7, Integer.MIN_VALUE, Integer.MAX_VALUE}) {
            Due.wrongArgument("first " + wrong, () -> game.begin(5, 5, 1, wrong, 0));
            Due.wrongArgument("second " + wrong, () -> game.begin(5, 5, 1, 0, wrong));
        }
        Due.wrongArgument("no cell left free", () -> game.begin(2, 2, 2, 0, 0));
        Due.answer("height as before", 2, () -> game.height(1));
        Due.answer("builder as before", 0, () -> game.builderAt(2));
        Due.answer("played as before", 1, game::played);
        Due.outside("cells as before", () -> game.height(4));
    }

    private static void place() {
        Stormroof game = new Stormroof();
        game.begin(3, 3, 2, 0, 0);
        game.raise(8, 4);
        game.raise(7, 3);
        Due.outside("place -1", () -> game.place(-1));
        Due.outside("place 9", () -> game.place(9));
        Due.notNow("place on a dome", () -> game.place(8));
        Due.answer("place 3", 0, () -> game.place(3));
        Due.notNow("place on a builder", () -> game.place(3));
        Due.answer("place on height 3", 1, () -> game.place(7));
        Due.answer("not won by that", -1, game::winner);
        Due.answer("place 0", 1, () -> game.place(0));
        Due.answer("place 1", 0, () -> game.place(1));
        Due.answer("first of player 0", 0, () -> game.builderAt(3));
        Due.answer("second of player 0", 1, () -> game.builderAt(7));
        Due.answer("first of player 1", 10, () -> game.builderAt(0));
        Due.answer("second of player 1", 11, () -> game.builderAt(1));
        Due.notNow("place a fifth", () -> game.place(5));
        Due.outside("place a fifth outside", () -> game.place(9));
        Due.answer("no fifth", -1, () -> game.builderAt(5));
    }

    private static void raise() {
        Stormroof game = new Stormroof();
        game.begin(2, 3, 1, 0, 0);
        Due.answer("raise to 4", 0, () -> game.raise(1, 4));
        Due.answer("raise to 2", 4, () -> game.raise(1, 2));
        Due.answer("raise to 0", 2, () -> game.raise(1, 0));
        Due.answer("raise to 0 again", 0, () -> game.raise(1, 0));
        Due.answer("raise the last cell", 0, () -> game.raise(5, 3));
        Due.outside("raise cell -1", () -> game.raise(-1, 0));
        Due.outside("raise cell 6", () -> game.raise(6, 0));
        Due.outside("raise cell 6 to 5", () -> game.raise(6, 5));
        Due.wrongArgument("raise to 5", () -> game.raise(0, 5));
        Due.wrongArgument("raise to -1", () -> game.raise(0, -1));
        game.place(0);
        Due.notNow("raise under a builder", () -> game.raise(0, 1));
        Due.wrongArgument("raise under a builder to 5", () -> game.raise(0, 5));
        Due.answer("raise when one is placed", 0, () -> game.raise(4, 1));
        game.place(2);
        Due.notNow("raise when all are placed", () -> game.raise(4, 2));
        Due.wrongArgument("raise to 5 when all are placed", () -> game.raise(4, 5));
        Due.outside("raise cell 6 when all are placed", () -> game.raise(6, 1));
        Due.answer("height 0", 0, () -> game.height(0));
        Due.answer("height 4", 1, () -> game.height(4));
        Due.answer("height 5", 3, () -> game.height(5));
    }

    private static void onTurnAndWinner() {
        Stormroof game = new Stormroof();
        game.begin(3, 3, 2, 0, 0);
        int[] due = {0, 0, 1, 1, 0};
        for (int i = 0; i < 4; i++) {
            Due.answer("onTurn with " + i + " placed", due[i], game::onTurn);
            game.place(2 * i);
        }
        Due.answer("onTurn with all placed", 0, game::onTurn);
        game.play(game.turnAt(0));
        Due.answer("onTurn behind a turn", 1, game::onTurn);
        Due.answer("winner behind a turn", -1, game::winner);
        game.play(game.turnAt(0));
        Due.answer("onTurn behind two turns", 0, game::onTurn);

        Stormroof second = duel(3, 0, 0, new int[] {0, 0, 0, 0, 3, 2}, 0, 5);
        second.play(100);
        Due.answer("player 1 wins", 1, () -> second.play(499));
        Due.answer("winner 1", 1, second::winner);
        Due.answer("onTurn when over", -1, second::onTurn);
    }

    private static void heightAndBuilderAt() {
        Stormroof game = game(2, 5, 2, 0, 0, new int[] {0, 1, 2, 3, 4, 4, 3, 2, 1, 0}, 0, 1, 9, 8);
        for (int cell = 0; cell < 10; cell++) {
            int here = cell;
            Due.answer("height " + cell, cell < 5 ? cell : 9 - cell, () -> game.height(here));
        }
        Due.answer("builder 0", 0, () -> game.builderAt(0));
        Due.answer("builder 1", 1, () -> game.builderAt(1));
        Due.answer("builder 10", 10, () -> game.builderAt(9));
        Due.answer("builder 11", 11, () -> game.builderAt(8));
        Due.answer("no builder", -1, () -> game.builderAt(2));
        for (int cell : new int[] {-1, 10, 24, 25, Integer.MIN_VALUE, Integer.MAX_VALUE}) {
            Due.outside("height " + cell, () -> game.height(cell));
            Due.outside("builderAt " + cell, () -> game.builderAt(cell));
        }
    }

    private static void played() {
        Stormroof game = duel(3, 0, 0, FLAT_2_3, 0, 5);
        Due.answer("played none", 0, game::played);
        game.play(100);
        Due.answer("played one", 1, game::played);
        game.play(405);
        Due.answer("played two", 2, game::played);
        Due.outcome(() -> game.play(-5));
        Due.answer("played two still", 2, game::played);
        game.takeBack();
        Due.answer("played one again", 1, game::played);
    }

    private static void moving() {
        turns("flat", duel(2, 0, 0, FLAT_2_2, 0, 3), 100, 102, 200, 201);
        turns("one up", duel(2, 0, 0, new int[] {0, 1, 0, 0}, 0, 3), 100, 102, 200, 201);
        turns("two up", duel(2, 0, 0, new int[] {0, 2, 0, 0}, 0, 3), 200, 201);
        turns("a dome one up", duel(2, 0, 0, new int[] {3, 4, 0, 0}, 0, 3), 200);
        turns("three down", duel(2, 0, 0, new int[] {3, 0, 4, 0}, 0, 3), 100);
        turns("up to 3", duel(2, 0, 0, new int[] {2, 3, 0, 0}, 0, 3), 199, 200, 201);
        turns("from 3 to 3", duel(2, 0, 0, new int[] {3, 3, 4, 0}, 0, 3), 100);
        turns("no row is left at its end", duel(3, 0, 0, FLAT_2_3, 2, 0), 102, 103, 104, 105, 401, 402, 403, 405,
                501, 502, 504);
        turns("two builders", game(2, 3, 2, 0, 0, FLAT_2_3, 0, 1, 2, 5), 300, 304, 400, 403, 10301, 10304, 10401, 10403);
    }

    private static void building() {
        Stormroof game = duel(2, 0, 0, new int[] {0, 3, 0, 0}, 0, 3);
        turns("a dome is built on 3", game, 200, 201);
        game.play(201);
        Due.answer("the dome", 4, () -> game.height(1));
        turns("no way over a dome", game, 3);
        Due.answer("built on the left cell", -1, () -> game.play(3));
        Due.answer("its height", 1, () -> game.height(3));
    }

    private static void movesTwice() {
        turns("twice", duel(3, 1, 0, FLAT_2_3, 0, 5), 100, 102, 103, 104, 201, 204, 300, 301, 304, 400, 401, 402, 403);
        turns("not back", duel(2, 1, 0, FLAT_2_2, 0, 3), 100, 102, 200, 201);
        turns("climbs twice", duel(3, 1, 0, new int[] {0, 1, 2, 4, 4, 0}, 0, 5), 100, 102, 201);
        turns("wins by the second", duel(3, 1, 0, new int[] {1, 2, 3, 4, 4, 0}, 0, 5), 100, 102, 299);
        turns("not on from a win", duel(3, 1, 0, new int[] {2, 3, 3, 4, 4, 0}, 0, 5), 199);
        turns("wins or builds in one cell", duel(2, 1, 0, new int[] {3, 3, 2, 0}, 0, 3), 100, 102, 199, 200, 201);
        turns("not over a builder", duel(3, 1, 0, new int[] {0, 0, 0, 4, 4, 4}, 0, 1));
        turns("the other has no such power", duel(3, 0, 1, new int[] {0, 0, 0, 4, 4, 0}, 0, 5), 100, 102);
        Stormroof game = duel(3, 0, 1, FLAT_2_3, 0, 5);
        game.play(100);
        Due.answer("player 1 moves twice", -1, () -> game.play(304));
        Due.answer("its builder", 10, () -> game.builderAt(3));
        Due.answer("it left", -1, () -> game.builderAt(5));
    }

    private static void swaps() {
        turns("swap", duel(2, 2, 0, FLAT_2_2, 0, 3), 100, 102, 200, 201, 301, 302);
        turns("too high to swap", duel(2, 2, 0, new int[] {0, 0, 0, 2}, 0, 3), 100, 102, 200, 201);
        turns("winning swap", duel(2, 2, 0, new int[] {2, 4, 4, 3}, 0, 3), 399);
        turns("no room to build behind a swap", duel(2, 2, 0, new int[] {0, 4, 4, 0}, 0, 3));
        turns("not with an own builder", game(2, 3, 2, 2, 0, new int[] {0, 0, 4, 0, 0, 0}, 0, 1, 4, 5), 300, 403, 10301, 10403);
        Stormroof up = duel(2, 2, 0, new int[] {3, 0, 0, 2}, 0, 3);
        Due.answer("a swap", -1, () -> up.play(301));
        Due.answer("the own builder", 0, () -> up.builderAt(3));
        Due.answer("the other builder", 10, () -> up.builderAt(0));
        Due.answer("who is lifted to 3 does not win", -1, up::winner);
        Due.answer("the swap taken back", 0, up::takeBack);
        Due.answer("the own builder is back", 0, () -> up.builderAt(0));
        Due.answer("the other builder is back", 10, () -> up.builderAt(3));
        Due.answer("the building is back", 0, () -> up.height(1));
        turns("only the other player swaps", duel(2, 0, 2, FLAT_2_2, 0, 3), 100, 102, 200, 201);
    }

    private static void pushes() {
        Integer[] all = {100, 102, 103, 105, 300, 301, 306, 307, 400, 401, 402, 403, 405, 406, 407};
        Integer[] few = {100, 102, 103, 105, 300, 301, 306, 307};
        turns("push", duel(3, 3, 0, FLAT_3_3, 0, 4), all);
        turns("push up to 3", duel(3, 3, 0, new int[] {0, 0, 0, 0, 0, 0, 0, 0, 3}, 0, 4), all);
        turns("no push on a dome", duel(3, 3, 0, new int[] {0, 0, 0, 0, 0, 0, 0, 0, 4}, 0, 4), few);
        turns("too high to push", duel(3, 3, 0, new int[] {0, 0, 0, 0, 2, 0, 0, 0, 0}, 0, 4), few);
        turns("no such power to push", duel(3, 0, 3, FLAT_3_3, 0, 4), few);
        turns("winning push", duel(3, 3, 0, new int[] {2, 4, 0, 4, 3, 0, 0, 0, 0}, 0, 4), 499);
        turns("no push on a builder", game(3, 3, 2, 3, 0, FLAT_3_3, 0, 6, 4, 8), 100, 102, 103, 105, 300, 301, 307,
                10301, 10306, 10307, 10401, 10403, 10405, 10406, 10407, 10703, 10705, 10706);
        turns("no push over the side", duel(3, 3, 0, FLAT_2_3, 1, 2), 1, 3, 4, 300, 301, 304, 400, 401, 403, 405,
                501, 504);
        turns("no push over the first row", duel(2, 3, 0, FLAT_2_2, 2, 0), 102, 103, 301, 302);
        Stormroof game = duel(3, 3, 5, new int[] {3, 0, 0, 0, 3, 0, 0, 0, 0}, 0, 4);
        Due.answer("a push down", -1, () -> game.play(400));
        Due.answer("the own builder", 0, () -> game.builderAt(4));
        Due.answer("the pushed builder", 10, () -> game.builderAt(8));
        Due.answer("the left cell", -1, () -> game.builderAt(0));
        Due.answer("built there", 4, () -> game.height(0));
        Due.answer("who is pushed down does not win", -1, game::winner);
        Due.answer("the push taken back", 0, game::takeBack);
        Due.answer("the own builder is back", 0, () -> game.builderAt(0));
        Due.answer("the pushed builder is back", 10, () -> game.builderAt(4));
        Due.answer("nobody is there", -1, () -> game.builderAt(8));
        Stormroof lifted = duel(3, 3, 0, new int[] {0, 0, 0, 0, 0, 0, 0, 0, 3}, 0, 4);
        Due.answer("who is pushed up to 3 does not win", -1, () -> lifted.play(400));
    }

    private static void barsClimbing() {
        int[] heights = {0, 1, 1, 0, 0, 0};
        Stormroof game = duel(3, 4, 0, heights, 0, 5);
        game.play(103);
        turns("barred", game, 400, 402, 403, 405);
        game.play(400);
        game.play(1);
        turns("barred for one turn only", game, 201, 204, 205, 301, 304, 501, 502, 504);
        Stormroof level = duel(3, 4, 0, heights, 0, 5);
        level.play(300);
        turns("not barred by a level move", level, 100, 102, 104, 105, 201, 204, 205, 400, 401, 402, 405);
        Stormroof other = duel(3, 0, 4, new int[] {0, 1, 1, 1, 0, 0}, 0, 5);
        other.play(103);
        turns("not barred without the power", other, 204, 205, 400, 402, 403, 405);
        other.play(205);
        turns("player 0 barred from cell 3", other, 1, 3, 4, 400, 401, 403, 405, 501, 504);
        Stormroof winning = duel(3, 4, 0, new int[] {0, 1, 3, 0, 0, 2}, 0, 5);
        winning.play(103);
        turns("barred from winning", winning, 400, 402, 403, 405);
        Stormroof twice = duel(3, 4, 1, new int[] {0, 1, 0, 0, 0, 0}, 0, 5);
        twice.play(103);
        turns("both moves barred", twice, 3, 4, 204, 205, 400, 402, 403, 405);
        Stormroof swap = duel(3, 4, 2, new int[] {0, 1, 4, 0, 0, 0}, 0, 5);
        swap.play(103);
        turns("barred from a swap", swap, 400, 403, 405);
        Stormroof push = duel(3, 4, 3, new int[] {0, 0, 0, 0, 1, 0, 0, 0, 0}, 0, 8);
        push.play(401);
        turns("barred from a push", push, 501, 502, 507, 508, 703, 705, 706, 708);
        Stormroof stuck = duel(3, 4, 0, new int[] {0, 1, 1, 0, 1, 0}, 0, 5);
        Due.answer("barred from all", 0, () -> stuck.play(103));
        Stormroof anew = duel(3, 4, 0, heights, 0, 5);
        anew.play(103);
        anew.begin(2, 2, 1, 0, 0);
        anew.raise(1, 1);
        anew.place(0);
        anew.place(3);
        turns("not barred in the next game", anew, 100, 102, 200, 201);
        Stormroof moved = duel(2, 2, 4, new int[] {1, 0, 0, 0}, 0, 3);
        moved.play(301);
        Due.answer("lifted by a swap", 10, () -> moved.builderAt(0));
        moved.play(200);
        turns("to be lifted is not to climb", moved, 100, 103, 200, 201);
    }

    private static void winsByLeap() {
        turns("two down", duel(2, 5, 0, new int[] {2, 0, 1, 0}, 0, 3), 199, 200, 201);
        turns("three and two down", duel(2, 5, 0, new int[] {3, 0, 1, 0}, 0, 3), 199, 299);
        turns("one down", duel(2, 5, 0, new int[] {3, 2, 3, 0}, 0, 3), 100, 102, 200, 201);
        turns("up to 3", duel(2, 5, 0, new int[] {2, 3, 4, 0}, 0, 3), 199);
        turns("no such power", duel(2, 0, 5, new int[] {2, 0, 1, 0}, 0, 3), 100, 102, 200, 201);
        Stormroof game = duel(2, 0, 5, new int[] {0, 0, 0, 2}, 0, 3);
        game.play(100);
        Due.answer("player 1 leaps", 1, () -> game.play(299));
        Due.answer("the winner", 1, game::winner);
        Due.answer("its builder", 10, () -> game.builderAt(2));
    }

    private static void buildsDomes() {
        turns("domes", duel(2, 6, 0, FLAT_2_2, 0, 3), 100, 102, 150, 152, 200, 201, 250, 251);
        turns("no dome at 3", duel(2, 6, 0, new int[] {0, 3, 0, 0}, 0, 3), 200, 201, 250);
        turns("a dome at 2", duel(2, 6, 0, new int[] {0, 2, 0, 0}, 0, 3), 200, 201, 250, 251);
        turns("no such power", duel(2, 0, 6, FLAT_2_2, 0, 3), 100, 102, 200, 201);
        Stormroof game = duel(2, 6, 6, new int[] {1, 2, 0, 0}, 0, 3);
        Due.answer("a dome", -1, () -> game.play(150));
        Due.answer("its height", 4, () -> game.height(0));
        Due.answer("the next player builds domes too", 0, () -> game.takeBack());
        Due.answer("the height before", 1, () -> game.height(0));
        game.play(102);
        turns("domes of player 1", game, 2, 3, 52, 53, 200, 203, 250, 253);
        Stormroof high = duel(2, 6, 0, new int[] {0, 3, 0, 0}, 0, 3);
        Due.answer("build at 3", -1, () -> high.play(201));
        Due.answer("that is a dome", 4, () -> high.height(1));
    }

    private static void turnCountAndTurnAt() {
        Stormroof game = new Stormroof();
        game.begin(2, 2, 1, 0, 0);
        game.raise(0, 2);
        game.raise(1, 3);
        for (int i = 0; i < 2; i++) {
            Due.notNow("turnCount, not all placed", game::turnCount);
            for (int place : new int[] {-1, 0, 1, 25, Integer.MIN_VALUE, Integer.MAX_VALUE}) {
                Due.notNow("turnAt " + place + ", not all placed", () -> game.turnAt(place));
            }
            game.place(3 * i);
        }
        turns("sorted", game, 199, 200, 201);
        for (int place : new int[] {-1, 3, Integer.MIN_VALUE, Integer.MAX_VALUE}) {
            Due.outside("turnAt " + place, () -> game.turnAt(place));
        }
        game.play(199);
        turns("game over", game);
        Due.outside("turnAt -1, game over", () -> game.turnAt(-1));
    }

    private static void play() {
        Stormroof game = new Stormroof();
        game.begin(2, 3, 1, 0, 0);
        Due.notNow("play, none placed", () -> game.play(100));
        game.place(0);
        Due.notNow("play, one placed", () -> game.play(100));
        game.place(5);
        int[] wrong = {-1, 0, 1, 99, 101, 105, 150, 199, 200, 500, 501, 10100, 10401, 100100, -100,
            Integer.MIN_VALUE, Integer.MAX_VALUE};
        for (int turn : wrong) {
            Due.notNow("play " + turn, () -> game.play(turn));
        }
        Due.answer("nothing has changed", 0, game::played);
        Due.answer("play 102", -1, () -> game.play(102));
        Due.answer("it came", 0, () -> game.builderAt(1));
        Due.answer("it left", -1, () -> game.builderAt(0));
        Due.answer("it built", 1, () -> game.height(2));
        Due.answer("played", 1, game::played);
        Due.notNow("a turn of the other player", () -> game.play(3));
        Due.answer("play 201", -1, () -> game.play(204));
        Due.answer("player 1 came", 10, () -> game.builderAt(2));
        Due.answer("player 0 is on turn", 0, game::onTurn);

        Stormroof two = game(2, 3, 2, 0, 0, FLAT_2_3, 0, 1, 2, 5);
        Due.answer("the second builder", -1, () -> two.play(10401));
        Due.answer("it came", 1, () -> two.builderAt(4));
        Due.answer("the first stands", 0, () -> two.builderAt(0));

        Stormroof win = duel(2, 0, 0, new int[] {2, 3, 0, 0}, 0, 3);
        Due.answer("a winning move", 0, () -> win.play(199));
        Due.answer("the winner", 0, win::winner);
        Due.answer("nobody is on turn", -1, win::onTurn);
        Due.answer("it came", 0, () -> win.builderAt(1));
        Due.answer("nothing is built", 3, () -> win.height(1));
        Due.answer("nothing is built", 2, () -> win.height(0));
        Due.notNow("play, game over", () -> win.play(2));
        Due.notNow("play, game over", () -> win.play(199));
    }

    private static void losesWithoutTurn() {
        Stormroof placed = new Stormroof();
        placed.begin(2, 2, 1, 0, 0);
        placed.raise(1, 4);
        placed.raise(2, 2);
        placed.place(0);
        Due.answer("over by placing", -1, () -> placed.place(3));
        Due.answer("onTurn", -1, placed::onTurn);
        Due.answer("winner", 1, placed::winner);
        Due.answer("played", 0, placed::played);
        turns("over by placing", placed);
        Due.notNow("takeBack", placed::takeBack);
        Due.notNow("play", () -> placed.play(0));
        Due.notNow("worth", () -> placed.worth(0));
        Due.notNow("place", () -> placed.place(0));
        Due.notNow("raise", () -> placed.raise(1, 0));

        Stormroof noRoom = duel(2, 2, 0, new int[] {0, 4, 4, 0}, 0, 3);
        Due.answer("no room to build behind the only move", 1, noRoom::winner);
        Stormroof four = game(3, 3, 2, 0, 0, new int[] {0, 0, 4, 4, 4, 4, 0, 0, 0}, 0, 1, 7, 8);
        Due.answer("only the other player can move", 1, four::winner);

        Stormroof shut = duel(2, 6, 0, new int[] {0, 0, 4, 0}, 0, 3);
        Due.answer("player 1 is shut in", 0, () -> shut.play(150));
        Due.answer("winner", 0, shut::winner);
        Due.answer("onTurn", -1, shut::onTurn);
        turns("shut in", shut);

        Stormroof both = duel(2, 0, 6, new int[] {0, 0, 0, 0}, 0, 3);
        both.play(102);
        Due.answer("player 0 goes on", -1, () -> both.play(53));
        Due.answer("player 0 is shut in by player 1", 1, () -> shutInPlayerZero());
    }

    private static int shutInPlayerZero() {
        Stormroof game = duel(2, 0, 6, new int[] {0, 0, 4, 0}, 0, 3);
        game.play(100);
        // Player 0 stands on cell 1, cell 0 is 1 high and cell 2 a dome; player 1 goes there and shuts cell 3.
        return game.play(53);
    }

    private static void takeBack() {
        Stormroof game = duel(3, 0, 0, new int[] {0, 0, 0, 0, 3, 2}, 0, 5);
        Due.notNow("takeBack of nothing", game::takeBack);
        game.play(102);
        game.play(499);
        Due.answer("takeBack of a win", 1, game::takeBack);
        Due.answer("winner", -1, game::winner);
        Due.answer("onTurn", 1, game::onTurn);
        Due.answer("builder", 10, () -> game.builderAt(5));
        Due.answer("no builder", -1, () -> game.builderAt(4));
        Due.answer("height", 3, () -> game.height(4));
        Due.answer("takeBack of a building", 0, game::takeBack);
        Due.answer("onTurn", 0, game::onTurn);
        Due.answer("builder", 0, () -> game.builderAt(0));
        Due.answer("height", 0, () -> game.height(2));
        Due.notNow("takeBack of no more", game::takeBack);
        Due.answer("play again", -1, () -> game.play(103));
        Due.answer("height", 0, () -> game.height(2));
        Due.answer("height", 1, () -> game.height(3));

        Stormroof shut = duel(2, 6, 0, new int[] {0, 0, 4, 0}, 0, 3);
        shut.play(150);
        Due.answer("takeBack of a loss", 0, shut::takeBack);
        Due.answer("no dome", 0, () -> shut.height(0));
        turns("as before", shut, 100, 150);
        Stormroof none = new Stormroof();
        Due.notNow("takeBack in a new game", none::takeBack);
        none.place(3);
        Due.notNow("takeBack of a placing", none::takeBack);
    }

    private static void takeBackRestoresPowers() {
        Stormroof game = duel(3, 4, 0, new int[] {0, 1, 1, 0, 0, 0}, 0, 5);
        game.play(103);
        game.play(400);
        game.takeBack();
        turns("barred again", game, 400, 402, 403, 405);
        game.takeBack();
        Due.answer("turns of player 0", 11, game::turnCount);
        game.play(300);
        turns("barred no more", game, 100, 102, 104, 105, 201, 204, 205, 400, 401, 402, 405);
    }

    private static void worth() {
        Stormroof flat = duel(2, 0, 0, FLAT_2_2, 0, 3);
        for (int turns = 0; turns <= 2; turns++) {
            int ahead = turns;
            Due.answer("flat worth " + turns, 0, () -> flat.worth(ahead));
        }
        Stormroof win = duel(2, 0, 0, new int[] {2, 3, 0, 0}, 0, 3);
        Due.answer("no turn, no win", 0, () -> win.worth(0));
        Due.answer("a win in one", 1, () -> win.worth(1));
        Due.answer("a win in two", 1, () -> win.worth(2));
        Due.answer("a win in three", 1, () -> win.worth(3));
        Due.answer("nothing has changed", 0, win::played);
        Due.answer("nobody has moved", 0, () -> win.builderAt(0));
        Stormroof loss = duel(2, 0, 5, new int[] {2, 0, 0, 0}, 3, 0);
        Due.answer("not lost in one", 0, () -> loss.worth(1));
        Due.answer("lost in two", -1, () -> loss.worth(2));
        Due.answer("lost in three", -1, () -> loss.worth(3));
        loss.play(102);
        Due.answer("the other player wins", 1, () -> loss.worth(1));
        Stormroof shut = duel(2, 6, 0, new int[] {0, 0, 4, 0}, 0, 3);
        Due.answer("a win by shutting in", 1, () -> shut.worth(1));
        // From cell 2, two cells of height 3 are near, and player 1 can shut but one of them.
        Stormroof fork = duel(3, 0, 0, new int[] {1, 3, 2, 0, 3, 1}, 5, 3);
        Due.answer("fork, one turn", 0, () -> fork.worth(1));
        Due.answer("fork, two turns", 0, () -> fork.worth(2));
        Due.answer("fork, three turns", 1, () -> fork.worth(3));
        Due.answer("fork, height as before", 1, () -> fork.height(5));
        Due.answer("fork, builder as before", 0, () -> fork.builderAt(5));
        fork.play(205);
        Due.answer("behind the fork", -1, () -> fork.worth(2));
    }

    private static void best() {
        Stormroof flat = duel(2, 0, 0, FLAT_2_2, 0, 3);
        Due.answer("flat best 1", 100, () -> flat.best(1));
        Due.answer("flat best 2", 100, () -> flat.best(2));
        Stormroof win = duel(3, 0, 0, new int[] {2, 0, 0, 3, 0, 0}, 0, 5);
        Due.answer("a win in one", 399, () -> win.best(1));
        Due.answer("a win in two", 399, () -> win.best(2));
        Due.answer("nothing has changed", 0, win::played);
        Stormroof loss = duel(2, 0, 5, new int[] {2, 0, 0, 0}, 3, 0);
        Due.answer("all is lost", 102, () -> loss.best(3));
        Stormroof fork = duel(3, 0, 0, new int[] {1, 3, 2, 0, 3, 1}, 5, 3);
        Due.answer("fork, one turn", 201, () -> fork.best(1));
        Due.answer("fork, two turns", 201, () -> fork.best(2));
        Due.answer("fork, three turns", 205, () -> fork.best(3));
        Due.answer("fork, height as before", 3, () -> fork.height(1));
        // Player 1 on cell 3 wins on cell 4, unless player 0 builds a dome there.
        Stormroof threat = duel(3, 0, 0, new int[] {0, 0, 0, 2, 3, 0}, 2, 3);
        Due.answer("the threat is not seen", 100, () -> threat.best(1));
        Due.answer("not lost", 0, () -> threat.worth(2));
        Due.answer("the threat is met", 104, () -> threat.best(2));
        // Turn 400 wins at once by shutting in player 1; a turn with a lower number wins in three.
        Stormroof slow = duel(3, 0, 0, new int[] {1, 2, 3, 0, 0, 1}, 5, 3);
        Due.answer("the fast way", 400, () -> slow.best(1));
        Due.answer("the lowest number, not the fastest way", 105, () -> slow.best(3));
    }

    private static void aheadRefuses() {
        Stormroof game = new Stormroof();
        game.begin(3, 3, 1, 0, 0);
        for (int i = 0; i < 2; i++) {
            Due.notNow("worth 0, not all placed", () -> game.worth(0));
            Due.notNow("worth 3, not all placed", () -> game.worth(3));
            Due.notNow("best 1, not all placed", () -> game.best(1));
            Due.wrongArgument("worth 4, not all placed", () -> game.worth(4));
            Due.wrongArgument("best 0, not all placed", () -> game.best(0));
            game.place(i);
        }
        for (int turns : new int[] {-1, 4, Integer.MIN_VALUE, Integer.MAX_VALUE}) {
            Due.wrongArgument("worth " + turns, () -> game.worth(turns));
            Due.wrongArgument("best " + turns, () -> game.best(turns));
        }
        Due.wrongArgument("best 0", () -> game.best(0));
        Due.notNow("worth 3 with 9 cells", () -> game.worth(3));
        Due.notNow("best 3 with 9 cells", () -> game.best(3));
        Due.answer("worth 2 with 9 cells", 0, () -> game.worth(2));
        Stormroof eight = duel(4, 0, 0, new int[8], 0, 7);
        Due.answer("worth 3 with 8 cells", 0, () -> eight.worth(3));
        Due.answer("best 3 with 8 cells", 100, () -> eight.best(3));
        Stormroof over = duel(2, 0, 0, new int[] {2, 3, 0, 0}, 0, 3);
        over.play(199);
        Due.notNow("worth 0, game over", () -> over.worth(0));
        Due.notNow("best 1, game over", () -> over.best(1));
        Due.wrongArgument("worth 4, game over", () -> over.worth(4));
        Due.wrongArgument("best 0, game over", () -> over.best(0));
    }

    private static void reached() {
        Stormroof game = new Stormroof();
        game.begin(2, 3, 2, 0, 0);
        for (int cell = 0; cell < 6; cell++) {
            game.raise(cell, new int[] {1, 3, 2, 1, 0, 2}[cell]);
        }
        Due.answer("none placed", 0, () -> game.reached(0));
        game.place(1);
        Due.answer("one placed", 3, () -> game.reached(0));
        Due.answer("none of the other", 0, () -> game.reached(1));
        game.place(0);
        Due.answer("two placed", 4, () -> game.reached(0));
        game.place(2);
        game.place(3);
        Due.answer("of the other", 3, () -> game.reached(1));
        game.play(501);
        Due.answer("behind a move", 3, () -> game.reached(0));
        for (int player : new int[] {-1, 2, 10, Integer.MIN_VALUE, Integer.MAX_VALUE}) {
            Due.outside("reached " + player, () -> game.reached(player));
        }
    }
}
