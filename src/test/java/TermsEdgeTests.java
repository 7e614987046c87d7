import java.util.Arrays;
import java.util.List;

/** Each sentence of the document's "Terms" that names a boundary, at the boundary and just beyond it. */
public final class TermsEdgeTests extends Games {

    private static final int DOME = 4;

    public static void main(String[] args) {
        cellsAreNumberedRowByRow();
        neighboursTouchAtSideOrCorner();
        noNeighboursRoundTheSides();
        playersHaveOneOrTwoBuilders();
        buildersArePlacedByTheirNumbers();
        playersTakeTurns();
        movesByHeight();
        noMoveToABuilder();
        noMoveWithoutATurnToABuilder();
        onlyAClimbToHeight3Wins();
        aWinEndsTurnAndGame();
        buildsByHeight();
        noBuildingOnABuilder();
        buildsOnTheLeftCell();
        noTurnAtTheFirstLoses();
        noTurnBehindATurnLoses();
        onlyAWinningMoveIsATurnToo();
        turnsAreNumbered();
        sameNumberIsTheSameTurn();
        indexGoesFirst();
        argumentGoesBeforeState();
        Due.end();
    }

    // "the cell in row r and column c has the number r * columns + c"
    private static void cellsAreNumberedRowByRow() {
        comesTo("cell 5 of 5 rows, 2 columns", duel(2, 0, 0, new int[10], 5, 9), 2, 3, 4, 6, 7);
        comesTo("cell 5 of 2 rows, 5 columns", duel(5, 0, 0, new int[10], 5, 9), 0, 1, 6);
        comesTo("cell 7 of 3 rows, 4 columns", duel(4, 0, 0, new int[12], 7, 0), 2, 3, 6, 10, 11);
        comesTo("cell 7 of 4 rows, 3 columns", duel(3, 0, 0, new int[12], 7, 0), 3, 4, 5, 6, 8, 9, 10, 11);
    }

    // "The neighbours of a cell are those that touch it at a side or a corner."
    private static void neighboursTouchAtSideOrCorner() {
        comesTo("corner 0", duel(5, 0, 0, new int[25], 0, 24), 1, 5, 6);
        comesTo("corner 4", duel(5, 0, 0, new int[25], 4, 20), 3, 8, 9);
        comesTo("corner 20", duel(5, 0, 0, new int[25], 20, 4), 15, 16, 21);
        comesTo("corner 24", duel(5, 0, 0, new int[25], 24, 0), 18, 19, 23);
        comesTo("first row", duel(5, 0, 0, new int[25], 2, 24), 1, 3, 6, 7, 8);
        comesTo("first column", duel(5, 0, 0, new int[25], 10, 24), 5, 6, 11, 15, 16);
        comesTo("last column", duel(5, 0, 0, new int[25], 14, 0), 8, 9, 13, 18, 19);
        comesTo("last row", duel(5, 0, 0, new int[25], 22, 0), 16, 17, 18, 21, 23);
        comesTo("middle", duel(5, 0, 0, new int[25], 12, 0), 6, 7, 8, 11, 13, 16, 17, 18);
    }

    private static void noNeighboursRoundTheSides() {
        comesTo("end of the first row", duel(5, 0, 0, new int[10], 4, 0), 3, 8, 9);
        comesTo("begin of the last row", duel(5, 0, 0, new int[10], 5, 9), 0, 1, 6);
        int[] oneWay = {DOME, DOME, 0, 0, 0, 0, 0, DOME, DOME};
        // Cell 3 has the number behind cell 2, and cell 6 the one behind cell 5, but they lie at the other side.
        turns("no moving or building round the sides", duel(3, 0, 0, oneWay, 2, 6), 402, 403, 405, 502, 504);
    }

    // "each has one or two builders, numbered from 0, in different cells"
    private static void playersHaveOneOrTwoBuilders() {
        Stormroof one = game(2, 3, 1, 0, 0, FLAT_2_3, 0, 5);
        Due.notNow("a second of one builder each", () -> one.place(1));
        Due.answer("builder 0 of player 0", 0, () -> one.builderAt(0));
        Due.answer("builder 0 of player 1", 10, () -> one.builderAt(5));
        Stormroof two = game(2, 3, 2, 0, 0, FLAT_2_3, 0, 5, 1, 4);
        Due.notNow("a third of two builders each", () -> two.place(2));
        Due.answer("builder 1 of player 0", 1, () -> two.builderAt(5));
        Due.answer("builder 1 of player 1", 11, () -> two.builderAt(4));
        for (int placed = 1; placed < 4; placed++) {
            int[] cells = Arrays.copyOf(new int[] {0, 5, 1}, placed);
            for (int cell : cells) {
                refuses("two in cell " + cell + ", " + placed + " placed", STATE,
                        () -> game(2, 3, 2, 0, 0, FLAT_2_3, cells), game -> game.place(cell));
            }
        }
    }

    // "First player 0 places its builders, by their numbers, on free cells, then player 1."
    private static void buildersArePlacedByTheirNumbers() {
        int[] cells = {8, 0, 6, 2};
        int[] who = {0, 1, 10, 11};
        int[] then = {0, 1, 1, 0};
        Stormroof game = game(3, 3, 2, 0, 0, FLAT_3_3);
        for (int i = 0; i < 4; i++) {
            int place = i;
            Due.answer("placing " + i, then[i], () -> game.place(cells[place]));
            Due.answer("who was placed as " + i, who[i], () -> game.builderAt(cells[place]));
        }
    }

    // "Then they take turns, player 0 first."
    private static void playersTakeTurns() {
        Stormroof game = duel(3, 0, 0, FLAT_3_3, 0, 8);
        for (int i = 0; i < 6; i++) {
            int player = i % 2;
            Due.answer("on turn behind " + i, player, game::onTurn);
            int to = game.turnAt(0) / 100;
            game.play(game.turnAt(0));
            Due.answer("who moved as " + i, 10 * player, () -> game.builderAt(to));
        }
    }

    // "A builder moves from its cell to a neighbour without a dome that is at most one storey higher"
    private static void movesByHeight() {
        for (int from = 0; from <= 3; from++) {
            for (int to = 0; to <= DOME; to++) {
                // Cell 2 is a dome, and on cell 3 stands the other, so that cell 1 alone is left.
                Stormroof game = duel(2, 0, 0, new int[] {from, to, DOME, 0}, 0, 3);
                String what = "from height " + from + " to " + to;
                if (to == DOME || to > from + 1) {
                    turns(what, game);
                    Due.answer(what + ", so the other has won", 1, game::winner);
                } else if (to == 3 && from == 2) {
                    turns(what, game, 199);
                } else {
                    turns(what, game, 100);
                }
            }
        }
    }

    // "... and has no builder"
    private static void noMoveToABuilder() {
        comesTo("not to the other", duel(3, 0, 0, FLAT_2_3, 0, 1), 3, 4);
        comesTo("not to the own", game(2, 3, 2, 0, 0, FLAT_2_3, 0, 4, 2, 5), 1, 3);
        comesTo("not to one lower", duel(3, 0, 0, new int[] {3, 0, 0, 2, 2, 2}, 0, 1), 3, 4);
        refuses("to the other", STATE, () -> duel(3, 0, 0, FLAT_2_3, 0, 1), game -> game.play(102));
        refuses("to the own", STATE, () -> game(2, 3, 2, 0, 0, FLAT_2_3, 0, 4, 2, 5), game -> game.play(401));
    }

    private static void noMoveWithoutATurnToABuilder() {
        int[] heights = {0, 0, DOME, DOME};
        Due.answer("only a cell with the other is left", 1, duel(2, 0, 0, heights, 0, 1)::winner);
        int[] row = {0, 0, 0, DOME, DOME, 0};
        Due.answer("only cells with builders are left", 1, game(2, 3, 2, 0, 0, row, 0, 1, 2, 5)::winner);
    }

    // "A move is winning if it leads to height 3 from a lower one."
    private static void onlyAClimbToHeight3Wins() {
        turns("from 2 to 3", duel(2, 0, 0, new int[] {2, 3, DOME, 0}, 0, 3), 199);
        turns("from 3 to 3", duel(2, 0, 0, new int[] {3, 3, DOME, 0}, 0, 3), 100);
        turns("from 1 to 2", duel(2, 0, 0, new int[] {1, 2, DOME, 0}, 0, 3), 100);
        turns("from 3 to 0", duel(2, 0, 0, new int[] {3, 0, DOME, 0}, 0, 3), 100);
        Stormroof level = duel(2, 0, 0, new int[] {3, 3, DOME, 0}, 0, 3);
        // It builds the fourth storey on the cell that it left, so that player 1 is shut in.
        Due.answer("from 3 to 3 goes on with a building", 0, () -> level.play(100));
        Due.answer("the building", DOME, () -> level.height(0));
        Stormroof stays = duel(3, 0, 0, new int[] {3, 3, 0, 0, 0, 0}, 0, 5);
        Due.answer("who is at height 3 has not won", -1, () -> stays.play(100));
    }

    // "A winning move ends the turn and the game."
    private static void aWinEndsTurnAndGame() {
        int[] heights = {2, 3, 1, 0, 0, 0};
        for (int turn : new int[] {100, 101, 102, 103, 104, 150, 198}) {
            refuses("a win and a building " + turn, STATE, () -> duel(3, 0, 0, heights, 0, 5), game -> game.play(turn));
        }
        Stormroof game = duel(3, 0, 0, heights, 0, 5);
        Due.answer("a win", 0, () -> game.play(199));
        for (int cell = 0; cell < 6; cell++) {
            int here = cell;
            Due.answer("nothing is built at " + cell, heights[cell], () -> game.height(here));
        }
        turns("no turn behind a win", game);
        Due.answer("nobody is on turn", -1, game::onTurn);
        refuses("a turn behind a win", STATE, () -> behind(duel(3, 0, 0, heights, 0, 5), 199), over -> over.play(401));
    }

    // "builds at a neighbour of its cell that has neither a builder nor a dome: the height becomes 1 more"
    private static void buildsByHeight() {
        for (int before = 0; before <= DOME; before++) {
            int[] heights = {0, 0, before, DOME, DOME, 0};
            Stormroof game = duel(3, 0, 0, heights, 0, 5);
            if (before == DOME) {
                turns("nothing on a dome", game, 100);
                continue;
            }
            turns("building on " + before, game, 100, 102);
            game.play(102);
            Due.answer("built on " + before, before + 1, () -> game.height(2));
            Due.answer("taken back", 0, game::takeBack);
            Due.answer("height " + before + " again", before, () -> game.height(2));
        }
    }

    private static void noBuildingOnABuilder() {
        turns("not on the other, not on the own cell", duel(2, 0, 0, new int[] {0, 0, DOME, 0}, 0, 3), 100);
        // Both builders can come to cell 1 only, and build then where they were.
        int[] oneFree = {0, 0, 0, 0, 0, DOME};
        turns("not on the own other", game(2, 3, 2, 0, 0, oneFree, 0, 4, 2, 3), 100, 10104);
    }

    // The cell that the builder left is a neighbour without a builder then.
    private static void buildsOnTheLeftCell() {
        Stormroof game = duel(2, 0, 0, new int[] {0, 0, DOME, 0}, 0, 3);
        turns("the left cell only", game, 100);
        Due.answer("built there", -1, () -> game.play(100));
        Due.answer("its height", 1, () -> game.height(0));
        Due.answer("nobody there", -1, () -> game.builderAt(0));
    }

    // "A player who has no turn loses at once."
    private static void noTurnAtTheFirstLoses() {
        int[] full = new int[25];
        Arrays.fill(full, 1, 24, DOME);
        Stormroof game = game(5, 5, 1, 0, 0, full, 0);
        Due.answer("a full board", -1, () -> game.place(24));
        Due.answer("a full board, winner", 1, game::winner);
        turns("a full board, turns", game);
        // Player 1 on cell 5 is shut in, but not on turn.
        int[] other = {0, DOME, DOME, 0, DOME, 0};
        Stormroof later = duel(3, 0, 0, other, 0, 5);
        Due.answer("only player 1 is shut in at the first", -1, later::winner);
        Due.answer("so player 0 is on turn", 0, later::onTurn);
        Due.answer("and player 1 loses behind its turn", 0, () -> later.play(300));
    }

    private static void noTurnBehindATurnLoses() {
        // Player 0 leaves cell 0 for the pit 1, and cannot come back; player 1 goes between 7 and 3.
        int[] pit = {2, 0, DOME, 0, DOME, DOME, DOME, 0};
        Stormroof game = duel(4, 0, 0, pit, 0, 7);
        Due.answer("who shuts itself in has not lost yet", -1, () -> game.play(100));
        Due.answer("player 1 is on turn", 1, game::onTurn);
        Due.answer("player 0 has no turn then", 1, () -> game.play(307));
        Due.answer("nobody is on turn", -1, game::onTurn);
        Due.answer("winner", 1, game::winner);
        turns("turns", game);
        int[] both = {2, 0, DOME, DOME, DOME, DOME, DOME, 0};
        Due.answer("both are shut in, and player 1 is on turn", 0, () -> duel(4, 0, 0, both, 0, 7).play(100));
        Due.answer("both are shut in, and player 0 is on turn", 1,
                duel(4, 0, 0, new int[] {0, 2, DOME, DOME, DOME, DOME, DOME, 0}, 0, 7)::winner);
    }

    // "A turn is a move and a building, or a winning move."
    private static void onlyAWinningMoveIsATurnToo() {
        // Behind the swap to cell 3 there is nothing to build on, and behind the winning one nothing need be.
        turns("no building, no turn", duel(2, 2, 0, new int[] {2, DOME, DOME, 2}, 0, 3));
        turns("no building, but a win", duel(2, 2, 0, new int[] {2, DOME, DOME, 3}, 0, 3), 399);
    }

    // "10000 * number of the builder + 100 * cell to which it comes + what"
    private static void turnsAreNumbered() {
        List<Integer> turns = turnsOf(game(5, 5, 2, 6, 0, new int[25], 0, 18, 4, 20));
        Due.is("the lowest of builder 0", turns.get(0), 100);
        Due.is("the highest of all", turns.get(turns.size() - 1), 12473);
        Due.is("a storey on the last cell", turns.contains(12324), true);
        Due.is("a dome on the last cell", turns.contains(12374), true);
        Due.is("beyond the last cell", turns.contains(12325), false);
        turns("to cell 0", duel(2, 0, 0, FLAT_2_2, 3, 2), 1, 3, 100, 103);
        turns("a dome on cell 0", duel(2, 6, 0, new int[] {0, 0, DOME, 0}, 0, 3), 100, 150);
        Stormroof first = duel(2, 0, 0, new int[] {3, 0, DOME, 2}, 3, 1);
        turns("a win on cell 0", first, 99);
        Due.answer("it is played", 0, () -> first.play(99));
        int[] heights = new int[25];
        heights[23] = 2;
        heights[24] = 3;
        Stormroof last = game(5, 5, 2, 0, 0, heights, 0, 23, 4, 20);
        Due.answer("a win on cell 24 by builder 1", 12499, () -> last.turnAt(last.turnCount() - 1));
        Due.answer("it is played", 0, () -> last.play(12499));
        Due.answer("who is there", 1, () -> last.builderAt(24));
    }

    // "Turns with the same number are the same turn, by whatever way the builder comes there."
    private static void sameNumberIsTheSameTurn() {
        turns("to cells 1 and 2 by two ways", duel(2, 1, 0, FLAT_2_2, 0, 3), 100, 102, 200, 201);
        turns("a win by three ways", duel(3, 1, 0, new int[] {2, 2, 0, 2, 3, 0}, 0, 2),
                100, 103, 104, 105, 300, 301, 304, 499, 501, 504);
        List<Integer> turns = turnsOf(game(5, 5, 2, 1, 0, new int[25], 12, 7, 0, 24));
        for (int i = 1; i < turns.size(); i++) {
            Due.is("turn " + i + " is higher than the one before", turns.get(i) > turns.get(i - 1), true);
        }
    }

    // "If several apply, IndexOutOfBoundsException goes first, then IllegalArgumentException."
    private static void indexGoesFirst() {
        Maker none = () -> game(2, 2, 1, 0, 0, FLAT_2_2);
        Maker all = () -> duel(2, 0, 0, FLAT_2_2, 0, 3);
        Maker over = () -> behind(duel(2, 0, 0, new int[] {2, 3, 0, 0}, 0, 3), 199);
        for (int cell : new int[] {-1, 4}) {
            refuses("place " + cell + ", all placed", INDEX, all, game -> game.place(cell));
            refuses("place " + cell + ", game over", INDEX, over, game -> game.place(cell));
            refuses("raise " + cell + " to -1", INDEX, none, game -> game.raise(cell, -1));
            refuses("raise " + cell + " to 5", INDEX, none, game -> game.raise(cell, 5));
            refuses("raise " + cell + " to 0, all placed", INDEX, all, game -> game.raise(cell, 0));
            refuses("raise " + cell + " to 5, all placed", INDEX, all, game -> game.raise(cell, 5));
            refuses("raise " + cell + " to 5, game over", INDEX, over, game -> game.raise(cell, 5));
        }
    }

    private static void argumentGoesBeforeState() {
        Maker none = () -> game(3, 3, 1, 0, 0, FLAT_3_3);
        Maker one = () -> game(3, 3, 1, 0, 0, FLAT_3_3, 4);
        Maker all = () -> duel(3, 0, 0, FLAT_3_3, 0, 8);
        Maker over = () -> behind(duel(2, 0, 0, new int[] {2, 3, 0, 0}, 0, 3), 199);
        for (int height : new int[] {-1, 5}) {
            refuses("raise under a builder to " + height, ARGUMENT, one, game -> game.raise(4, height));
            refuses("raise to " + height + ", all placed", ARGUMENT, all, game -> game.raise(4, height));
            refuses("raise to " + height + ", game over", ARGUMENT, over, game -> game.raise(3, height));
        }
        for (Maker maker : new Maker[] {none, one, all, over}) {
            refuses("worth -1 in any state", ARGUMENT, maker, game -> game.worth(-1));
            refuses("worth 4 in any state", ARGUMENT, maker, game -> game.worth(4));
            refuses("best 0 in any state", ARGUMENT, maker, game -> game.best(0));
            refuses("best 4 in any state", ARGUMENT, maker, game -> game.best(4));
        }
    }
}
