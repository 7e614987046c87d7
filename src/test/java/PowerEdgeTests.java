import java.util.List;

/** Each sentence about the powers that names a boundary, at the boundary and just beyond it. */
public final class PowerEdgeTests extends Games {

    private static final int DOME = 4;
    private static final int MIDDLE = 12;
    private static final int[] ROUND_THE_MIDDLE = {6, 7, 8, 11, 13, 16, 17, 18};

    public static void main(String[] args) {
        eachPlayerHasItsOwnPower();
        onceOrTwice();
        notBackToTheFirstCell();
        theFirstOfTwoMustNotWin();
        bothAreMovesAsTold();
        byWayOfEachCorner();
        aSecondMoveWins();
        twoMovesOneBuilding();
        swapsByHeight();
        swapsOnlyWithTheOther();
        swapLeavesNoRoomBehind();
        pushesInEachDirection();
        pushesNotOverTheSide();
        pushesNotOnABuilderOrDome();
        pushesWhateverTheHeightBeyond();
        pushesByTheHeightOfTheCellEntered();
        pushesOnlyTheOther();
        buildsBehindAPush();
        barsByAnyClimb();
        barsAllBuildersOfTheOther();
        barsTheNextTurnOnly();
        barsAWin();
        barsWithoutATurnLeft();
        whoBarsIsNotBarred();
        bothBar();
        barsSwapAndPush();
        barsAgainBehindTakeBack();
        leapsByHeight();
        leapsOnlyDown();
        leapsEndTheGame();
        domesByHeight();
        domesNotOnBuilders();
        whoIsMovedDoesNotWin();
        whoIsMovedDoesNotCountAsMoved();
        Due.end();
    }

    // "Each player has one of these"
    private static void eachPlayerHasItsOwnPower() {
        int[] heights = {0, 0, 0, 0};
        turns("power 6 of player 0 for player 0", duel(2, 6, 0, heights, 0, 3), 100, 102, 150, 152, 200, 201, 250, 251);
        turns("power 6 of player 1 not for player 0", duel(2, 0, 6, heights, 0, 3), 100, 102, 200, 201);
        turns("power 6 of player 0 not for player 1", behind(duel(2, 6, 0, heights, 0, 3), 102), 2, 3, 200, 203);
        turns("power 6 of player 1 for player 1", behind(duel(2, 0, 6, heights, 0, 3), 102),
                2, 3, 52, 53, 200, 203, 250, 253);
        Stormroof game = duel(3, 6, 0, FLAT_3_3, 0, 8);
        for (int i = 0; i < 6; i++) {
            boolean hasDomes = turnsOf(game).stream().anyMatch(turn -> turn % 100 >= 50);
            Due.is("domes in turn " + i, hasDomes, i % 2 == 0);
            game.play(game.turnAt(0));
        }
    }

    // "1: the builder may move twice in a turn"
    private static void onceOrTwice() {
        Stormroof game = duel(5, 1, 0, new int[10], 0, 9);
        comesTo("one or two cells far, but not three", game, 1, 2, 5, 6, 7);
        comesTo("one cell far without the power", duel(5, 0, 1, new int[10], 0, 9), 1, 5, 6);
        refuses("three cells far", STATE, () -> duel(5, 1, 0, new int[10], 0, 9), again -> again.play(302));
    }

    // "but not back to the cell where it was at first"
    private static void notBackToTheFirstCell() {
        comesTo("not to cell 0", duel(2, 1, 0, FLAT_2_2, 0, 3), 1, 2);
        for (int turn : new int[] {1, 2}) {
            refuses("back to cell 0 by " + turn, STATE, () -> duel(2, 1, 0, FLAT_2_2, 0, 3), game -> game.play(turn));
        }
        comesTo("not to the middle", duel(3, 1, 0, FLAT_3_3, 4, 8), 0, 1, 2, 3, 5, 6, 7);
        comesTo("not even to win", duel(2, 1, 0, new int[] {3, 2, DOME, 0}, 0, 3), 1);
    }

    // "the first move must not be winning then"
    private static void theFirstOfTwoMustNotWin() {
        turns("not on from a win to another", duel(3, 1, 0, new int[] {2, 3, 3, DOME, DOME, 0}, 0, 5), 199);
        turns("not on from a win to lower", duel(3, 1, 0, new int[] {2, 3, 0, DOME, DOME, 0}, 0, 5), 199);
        turns("on from height 3 to height 3", duel(3, 1, 0, new int[] {3, 3, 0, DOME, DOME, 0}, 0, 5), 100, 102, 201);
    }

    // "and both are moves as told"
    private static void bothAreMovesAsTold() {
        turns("each one storey up", duel(3, 1, 0, new int[] {0, 1, 2, DOME, DOME, 0}, 0, 5), 100, 102, 201);
        turns("the first two up", duel(3, 1, 0, new int[] {0, 2, 0, DOME, DOME, 0}, 0, 5));
        turns("the second two up", duel(3, 1, 0, new int[] {0, 1, 3, DOME, DOME, 0}, 0, 5), 100, 102);
        turns("the first to a dome", duel(3, 1, 0, new int[] {3, DOME, 3, DOME, DOME, 0}, 0, 5));
        turns("the second to a dome", duel(3, 1, 0, new int[] {3, 3, DOME, DOME, DOME, 0}, 0, 5), 100);
        turns("the first to the other", duel(3, 1, 0, new int[] {0, 0, 0, DOME, DOME, DOME}, 0, 1));
        turns("the second to the other", duel(3, 1, 0, new int[] {0, 0, 0, DOME, DOME, DOME}, 0, 2), 100);
        turns("the first to the own", game(2, 3, 2, 1, 0, new int[] {0, 0, 0, DOME, DOME, 0}, 0, 1, 5, 2));
        comesTo("the second to the own", game(2, 5, 2, 1, 0, new int[] {0, 0, 0, 0, 0, DOME, DOME, DOME, 0, 0},
                0, 2, 4, 9), 1);
    }

    /** Where two storeys up are climbed by way of a cell between, each corner of the board can be that cell. */
    private static void byWayOfEachCorner() {
        turns("by way of cell 0", duel(2, 1, 0, new int[] {1, 0, 2, 0}, 1, 3), 1, 2, 200, 201);
        turns("by way of cell 1", duel(2, 1, 0, new int[] {0, 1, 2, 0}, 0, 3), 100, 102, 200, 201);
        turns("by way of cell 2", duel(2, 1, 0, new int[] {0, 2, 1, 0}, 0, 3), 100, 102, 200, 201);
        turns("by way of cell 3", duel(2, 1, 0, new int[] {0, 2, 0, 1}, 0, 2), 100, 103, 300, 301);
        int[] heights = new int[25];
        heights[24] = 1;
        heights[23] = 2;
        comesTo("by way of cell 24", duel(5, 1, 0, heights, 19, 18), 7, 8, 9, 12, 13, 14, 17, 23, 24);
    }

    private static void aSecondMoveWins() {
        int[] heights = {1, 2, 3, DOME, DOME, 0};
        turns("by the second move", duel(3, 1, 0, heights, 0, 5), 100, 102, 299);
        turns("and not from 3 to 3", duel(3, 1, 0, new int[] {3, 3, 3, DOME, DOME, 0}, 0, 5), 100, 102, 201);
        turns("by way of 2, or not", duel(2, 1, 0, new int[] {3, 3, 2, 0}, 0, 3), 100, 102, 199, 200, 201);
        Stormroof game = duel(3, 1, 0, heights, 0, 5);
        Due.answer("the win", 0, () -> game.play(299));
        Due.answer("who is there", 0, () -> game.builderAt(2));
        Due.answer("the first cell is left", -1, () -> game.builderAt(0));
        Due.answer("the second cell is left", -1, () -> game.builderAt(1));
        Due.answer("taken back", 0, game::takeBack);
        Due.answer("who is back", 0, () -> game.builderAt(0));
        Due.answer("nobody is there", -1, () -> game.builderAt(2));
    }

    private static void twoMovesOneBuilding() {
        Stormroof game = duel(3, 1, 0, FLAT_2_3, 0, 5);
        Due.answer("two moves", -1, () -> game.play(204));
        int[] due = {0, 0, 0, 0, 1, 0};
        for (int cell = 0; cell < 6; cell++) {
            int here = cell;
            Due.answer("height behind two moves " + cell, due[cell], () -> game.height(here));
            Due.answer("builder behind two moves " + cell, cell == 2 ? 0 : cell == 5 ? 10 : -1,
                    () -> game.builderAt(here));
        }
        Due.answer("one turn", 1, game::played);
    }

    // "2: the builder may also move to a neighbour with a builder of the other player, if its height allows it"
    private static void swapsByHeight() {
        for (int from = 0; from <= 3; from++) {
            for (int to = 0; to <= 3; to++) {
                // The free cell 2 lies beside the other's cell 1, and cannot be entered from cell 0.
                Stormroof game = duel(3, 2, 0, new int[] {from, to, 0, DOME, DOME, DOME}, 0, 1);
                String what = "swap from " + from + " to " + to;
                if (to > from + 1) {
                    turns(what, game);
                } else if (to == 3 && from == 2) {
                    turns(what, game, 199);
                } else {
                    turns(what, game, 102);
                }
            }
        }
        Stormroof game = duel(3, 2, 0, new int[] {1, 2, 0, DOME, DOME, DOME}, 0, 1);
        game.play(102);
        Due.answer("the own builder comes", 0, () -> game.builderAt(1));
        Due.answer("that one comes to the cell which it leaves", 10, () -> game.builderAt(0));
        Due.answer("nobody comes elsewhere", -1, () -> game.builderAt(2));
    }

    private static void swapsOnlyWithTheOther() {
        turns("not with the own", game(2, 3, 2, 2, 0, FLAT_2_3, 0, 1, 2, 5),
                300, 304, 400, 403, 10204, 10301, 10304, 10401, 10403, 10504);
        comesTo("not with one two cells far", duel(3, 2, 0, FLAT_2_3, 0, 2), 1, 3, 4);
        comesTo("not round the sides", duel(3, 2, 0, FLAT_3_3, 2, 3), 1, 4, 5);
    }

    private static void swapLeavesNoRoomBehind() {
        turns("not built on the left cell", duel(2, 2, 0, FLAT_2_2, 0, 3), 100, 102, 200, 201, 301, 302);
        turns("nothing else to build on", duel(2, 2, 0, new int[] {0, DOME, DOME, 0}, 0, 3));
        Due.answer("so that is no turn", 1, duel(2, 2, 0, new int[] {0, DOME, DOME, 0}, 0, 3)::winner);
        Due.answer("nor behind a turn", 0, () -> duel(2, 6, 2, new int[] {0, 0, DOME, 0}, 0, 3).play(150));
    }

    // "3: ... and the next cell in the same direction is on the board and has neither a builder nor a dome"
    private static void pushesInEachDirection() {
        for (int other : ROUND_THE_MIDDLE) {
            int beyond = 2 * other - MIDDLE;
            Stormroof game = duel(5, 3, 0, new int[25], MIDDLE, other);
            comesTo("push to " + other, game, 6, 7, 8, 11, 13, 16, 17, 18);
            Due.is("built on the left cell", turnsOf(game).contains(100 * other + MIDDLE), true);
            Due.is("not built beyond", turnsOf(game).contains(100 * other + beyond), false);
            Due.answer("pushing", -1, () -> game.play(100 * other + MIDDLE));
            Due.answer("who pushed", 0, () -> game.builderAt(other));
            Due.answer("who was pushed", 10, () -> game.builderAt(beyond));
            Due.answer("the left cell", -1, () -> game.builderAt(MIDDLE));
            Due.answer("the building", 1, () -> game.height(MIDDLE));
            game.takeBack();
            Due.answer("who pushed is back", 0, () -> game.builderAt(MIDDLE));
            Due.answer("who was pushed is back", 10, () -> game.builderAt(other));
            Due.answer("nobody beyond", -1, () -> game.builderAt(beyond));
        }
    }

    private static void pushesNotOverTheSide() {
        for (int other : new int[] {0, 1, 2, 3, 5, 6, 7, 8}) {
            Stormroof game = duel(3, 3, 0, FLAT_3_3, 4, other);
            boolean comesThere = turnsOf(game).stream().anyMatch(turn -> turn / 100 == other);
            Due.is("no push over the side from " + other, comesThere, false);
        }
        // The number behind cell 2 is 3, and the one before cell 3 is 2, but at the other sides.
        comesTo("not round the last column", duel(3, 3, 0, FLAT_2_3, 1, 2), 0, 3, 4, 5);
        comesTo("not round the first column", duel(3, 3, 0, FLAT_2_3, 4, 3), 0, 1, 2, 5);
        comesTo("not aslant round the last column", duel(3, 3, 0, FLAT_3_3, 1, 5), 0, 2, 3, 4);
        comesTo("not aslant round the first column", duel(3, 3, 0, FLAT_3_3, 7, 3), 4, 5, 6, 8);
    }

    private static void pushesNotOnABuilderOrDome() {
        int[] dome = {0, 0, 0, 0, 0, 0, 0, 0, DOME};
        comesTo("not on a dome", duel(3, 3, 0, dome, 0, 4), 1, 3);
        comesTo("not on the other's", game(3, 3, 2, 3, 0, FLAT_3_3, 0, 6, 4, 8), 1, 3);
        comesTo("not on the own", game(3, 3, 2, 3, 0, FLAT_3_3, 0, 8, 4, 6), 1, 3);
        refuses("on a dome", STATE, () -> duel(3, 3, 0, dome, 0, 4), game -> game.play(400));
        turns("no push, no turn", duel(3, 3, 0, new int[] {0, 0, DOME, DOME, DOME, 0}, 0, 1));
    }

    // "that one comes there, whatever its height is"
    private static void pushesWhateverTheHeightBeyond() {
        for (int beyond = 0; beyond <= DOME; beyond++) {
            int[] heights = {0, 0, beyond, DOME, DOME, DOME};
            Stormroof game = duel(3, 3, 0, heights, 0, 1);
            if (beyond == DOME) {
                turns("pushed to a dome", game);
                continue;
            }
            turns("pushed to height " + beyond, game, 100);
            game.play(100);
            Due.answer("who was pushed to height " + beyond, 10, () -> game.builderAt(2));
        }
    }

    // "if its height allows it as told"
    private static void pushesByTheHeightOfTheCellEntered() {
        for (int from = 0; from <= 3; from++) {
            for (int to = 0; to <= 3; to++) {
                Stormroof game = duel(3, 3, 0, new int[] {from, to, 0, DOME, DOME, DOME}, 0, 1);
                String what = "push from " + from + " to " + to;
                if (to > from + 1) {
                    turns(what, game);
                } else if (to == 3 && from == 2) {
                    turns(what, game, 199);
                } else {
                    turns(what, game, 100);
                }
            }
        }
        Stormroof game = duel(3, 3, 0, new int[] {2, 3, 0, DOME, DOME, DOME}, 0, 1);
        Due.answer("a winning push", 0, () -> game.play(199));
        Due.answer("who won is there", 0, () -> game.builderAt(1));
        Due.answer("who was pushed too", 10, () -> game.builderAt(2));
    }

    private static void pushesOnlyTheOther() {
        comesTo("not the own", game(3, 3, 2, 3, 0, FLAT_3_3, 0, 4, 2, 6), 1, 3);
        comesTo("not without the power", duel(3, 0, 3, FLAT_3_3, 0, 4), 1, 3);
        comesTo("not one two cells far", duel(5, 3, 0, new int[10], 0, 2), 1, 5, 6);
    }

    private static void buildsBehindAPush() {
        // Pushed to cell 2, the other stands beside cell 1, and cell 0 is free.
        turns("where the pushed one comes nothing is built", duel(3, 3, 0, FLAT_2_3, 0, 1),
                100, 103, 104, 105, 300, 304, 400, 402, 403, 405);
    }

    // "4: if a builder of this player has moved to a greater height"
    private static void barsByAnyClimb() {
        for (int from = 0; from <= 3; from++) {
            for (int to = 0; to <= Math.min(from + 1, 3); to++) {
                if (from == 2 && to == 3) {
                    continue;
                }
                // Player 1 on cell 7 has cell 3, one storey higher, and cell 6, as high as its own.
                Stormroof game = duel(4, 4, 0, new int[] {from, to, DOME, 1, DOME, DOME, 0, 0}, 0, 7);
                game.play(100);
                String what = "behind a move from " + from + " to " + to;
                if (to > from) {
                    comesTo(what, game, 6);
                } else {
                    comesTo(what, game, 3, 6);
                }
            }
        }
        Stormroof without = duel(4, 0, 4, new int[] {0, 1, DOME, 1, DOME, DOME, 0, 0}, 0, 7);
        without.play(100);
        comesTo("the power is of the other", without, 3, 6);
    }

    // "no builder of the other player may move to a greater height"
    private static void barsAllBuildersOfTheOther() {
        int[] heights = {0, 0, 0, 1, 1, 1, 0, 0, 0};
        Stormroof game = game(3, 3, 2, 4, 0, heights, 0, 2, 6, 8);
        game.play(10502);
        turns("both barred", game, 703, 704, 706, 10703, 10704, 10708);
        Stormroof twice = duel(3, 4, 1, new int[] {0, 1, 0, 0, 0, 0}, 0, 5);
        twice.play(103);
        turns("the second move is barred too", twice, 3, 4, 204, 205, 400, 402, 403, 405);
    }

    // "in the next turn"
    private static void barsTheNextTurnOnly() {
        Stormroof game = duel(4, 4, 0, new int[] {0, 1, DOME, 1, 1, DOME, 0, 0}, 0, 7);
        game.play(100);
        comesTo("barred", game, 6);
        game.play(607);
        game.play(401);
        comesTo("not barred behind a level move", game, 3, 7);
    }

    private static void barsAWin() {
        int[] heights = {0, 1, DOME, 3, DOME, DOME, 0, 2};
        Stormroof game = duel(4, 4, 0, heights, 0, 7);
        turns("a win is near", behind(duel(4, 0, 0, heights, 0, 7), 100), 399, 603, 607);
        game.play(100);
        turns("barred from it", game, 603, 607);
        refuses("the win", STATE, () -> behind(duel(4, 4, 0, heights, 0, 7), 100), barred -> barred.play(399));
    }

    private static void barsWithoutATurnLeft() {
        int[] heights = {0, 1, DOME, 1, DOME, DOME, 1, 0};
        Due.answer("all is higher", 0, () -> duel(4, 4, 0, heights, 0, 7).play(100));
        Due.answer("without the power that is no win", -1, () -> duel(4, 0, 4, heights, 0, 7).play(100));
        Stormroof game = behind(duel(4, 4, 0, heights, 0, 7), 100);
        turns("no turn", game);
        Due.answer("winner", 0, game::winner);
        Due.answer("taken back", 0, game::takeBack);
        Due.answer("on turn", 0, game::onTurn);
        Due.answer("a worth that sees the bar", 1, () -> game.worth(1));
        Due.answer("a best that sees the bar", 100, () -> game.best(1));
    }

    private static void whoBarsIsNotBarred() {
        Stormroof game = duel(4, 4, 0, new int[] {0, 1, 2, 0, DOME, DOME, 0, 0}, 0, 7);
        game.play(100);
        game.play(307);
        comesTo("its own next turn", game, 0, 2, 6);
        Due.answer("it climbs again", -1, () -> game.play(201));
        Due.answer("it has climbed twice", 2, () -> game.reached(0));
    }

    private static void bothBar() {
        int[] heights = {0, 1, 1, 1, DOME, DOME, 0, 0};
        Stormroof barred = duel(4, 4, 4, heights, 0, 7);
        barred.play(100);
        comesTo("player 1 is barred", barred, 6);
        barred.play(607);
        comesTo("player 0 is not, as player 1 did not climb", barred, 0, 2);
        Stormroof bars = duel(4, 4, 4, new int[] {0, 0, 1, 1, DOME, DOME, 0, 0}, 0, 7);
        bars.play(100);
        comesTo("player 1 is not", bars, 2, 3, 6);
        bars.play(307);
        comesTo("player 0 is barred then", bars, 6);
    }

    private static void barsAgainBehindTakeBack() {
        Stormroof game = duel(4, 4, 0, new int[] {0, 1, DOME, 1, 1, DOME, 0, 0}, 0, 7);
        game.play(100);
        game.play(607);
        game.takeBack();
        comesTo("barred again", game, 6);
        game.takeBack();
        game.play(401);
        comesTo("barred by the other climb", game, 6);
        Stormroof level = behind(duel(4, 4, 0, new int[] {0, 0, DOME, 1, 1, DOME, 0, 0}, 0, 7), 100, 307);
        level.play(401);
        level.takeBack();
        level.takeBack();
        comesTo("not barred, as the climb is taken back", level, 3, 6);
    }

    // "5: a move is also winning if it leads two or more storeys down."
    private static void leapsByHeight() {
        for (int from = 0; from <= 3; from++) {
            for (int to = 0; to <= 3; to++) {
                Stormroof game = duel(2, 5, 0, new int[] {from, to, DOME, 0}, 0, 3);
                String what = "power 5 from " + from + " to " + to;
                if (to > from + 1) {
                    turns(what, game);
                } else if (from - to >= 2 || from == 2 && to == 3) {
                    turns(what, game, 199);
                } else {
                    turns(what, game, 100);
                }
            }
        }
        turns("not without the power", duel(2, 0, 5, new int[] {3, 0, DOME, 0}, 0, 3), 100);
    }

    private static void leapsOnlyDown() {
        turns("two up is no move", duel(2, 5, 0, new int[] {0, 2, DOME, 0}, 0, 3));
        turns("a dome is not entered", duel(2, 5, 0, new int[] {3, DOME, DOME, 0}, 0, 3));
        turns("nor the other's cell", duel(2, 5, 0, new int[] {3, 0, DOME, DOME}, 0, 1));
    }

    private static void leapsEndTheGame() {
        Stormroof game = duel(2, 5, 0, new int[] {2, 0, 1, 0}, 0, 3);
        refuses("a leap with a building", STATE, () -> duel(2, 5, 0, new int[] {2, 0, 1, 0}, 0, 3), g -> g.play(102));
        Due.answer("a leap", 0, () -> game.play(199));
        Due.answer("nothing is built", 2, () -> game.height(0));
        Due.answer("it reaches nothing", 0, () -> game.reached(0));
        turns("no turns", game);
        Due.answer("taken back", 0, game::takeBack);
        Due.answer("nobody has won", -1, game::winner);
        Due.answer("it is seen", 1, () -> game.worth(1));
    }

    // "6: instead of building one storey the builder may build a dome at a height below 3"
    private static void domesByHeight() {
        for (int before = 0; before <= DOME; before++) {
            int[] heights = {3, 3, before, DOME, DOME, 0};
            String what = "a dome at " + before;
            // Cell 0, which is left, is 3 high, so that only the plain building is there.
            if (before == DOME) {
                turns(what, duel(3, 6, 0, heights, 0, 5), 100);
            } else if (before == 3) {
                turns(what, duel(3, 6, 0, heights, 0, 5), 100, 102);
                refuses(what, STATE, () -> duel(3, 6, 0, heights, 0, 5), game -> game.play(152));
            } else {
                Stormroof game = duel(3, 6, 0, heights, 0, 5);
                turns(what, game, 100, 102, 152);
                Due.outcome(() -> game.play(152));
                Due.answer(what + " is built", DOME, () -> game.height(2));
                Due.answer(what + " is taken back", 0, game::takeBack);
                Due.answer(what + " is gone", before, () -> game.height(2));
                Due.outcome(() -> game.play(102));
                Due.answer("or a storey", before + 1, () -> game.height(2));
            }
        }
    }

    private static void domesNotOnBuilders() {
        List<Integer> turns = turnsOf(game(2, 3, 2, 6, 0, FLAT_2_3, 0, 2, 3, 5));
        for (int turn : turns) {
            int what = turn % 100 % 50;
            int to = turn / 100 % 100;
            int left = turn < 10000 ? 0 : 2;
            Due.is(turn + " builds on a free cell", what != to && (what == left || what == 1 || what == 4), true);
        }
        // To cells 1 and 4, from cells 0 and 2, each with the left cell and the other of the two.
        Due.is("turns", turns.size(), 16);
    }

    // "A builder of the other player that is moved by the powers 2 and 3 does not win by that"
    private static void whoIsMovedDoesNotWin() {
        Stormroof free = duel(3, 2, 0, new int[] {3, 2, 0, 0, DOME, DOME}, 0, 1);
        Due.answer("lifted to 3 by a swap", -1, () -> free.play(102));
        Due.answer("nobody has won", -1, free::winner);
        Due.answer("it is there", 3, () -> free.reached(1));
        Stormroof pushed = duel(3, 3, 0, new int[] {0, 0, 3, 0, 0, 0}, 0, 1);
        Due.answer("lifted to 3 by a push", -1, () -> pushed.play(103));
        Due.answer("nobody has won by a push", -1, pushed::winner);
        Due.answer("it is there by a push", 3, () -> pushed.reached(1));
        // Player 0 comes to cell 1 of height 2, and player 1 goes down to it from cell 2 of height 3.
        Stormroof zero = behind(duel(3, 0, 2, new int[] {1, 2, 3, 0, 0, 0}, 0, 2), 103);
        Due.answer("player 0 lifted to 3 by a swap", -1, () -> zero.play(100));
        Due.answer("player 0 is there", 3, () -> zero.reached(0));
        Stormroof fell = duel(3, 3, 5, new int[] {2, 2, 0, 0, 0, 0}, 0, 1);
        Due.answer("let down two by a push", -1, () -> fell.play(103));
        Due.answer("nobody has won by a fall", -1, fell::winner);
        Stormroof third = duel(3, 3, 5, new int[] {3, 3, 0, 0, 0, 0}, 0, 1);
        Due.answer("let down three by a push", -1, () -> third.play(103));
    }

    // "nor does it count as moved for the power 4"
    private static void whoIsMovedDoesNotCountAsMoved() {
        // Player 1 with the power 4 is lifted by a swap, and moves level then: player 0 is not barred.
        Stormroof swapped = duel(2, 2, 4, new int[] {1, 0, 0, 0}, 0, 3);
        swapped.play(301);
        Due.answer("lifted by a swap", 1, () -> swapped.reached(1));
        swapped.play(102);
        comesTo("player 0 climbs behind a swap", swapped, 0, 1, 2);
        Stormroof pushed = duel(4, 3, 4, new int[] {0, 0, 1, 1, DOME, DOME, DOME, 1}, 0, 1);
        pushed.play(100);
        Due.answer("lifted by a push", 1, () -> pushed.reached(1));
        pushed.play(302);
        comesTo("player 0 climbs behind a push", pushed, 0);
    }

    private static void barsSwapAndPush() {
        Stormroof swap = duel(2, 4, 2, new int[] {0, 1, 0, 0}, 0, 3);
        swap.play(100);
        comesTo("barred from a swap that climbs", swap, 2);
        Stormroof push = duel(4, 4, 3, new int[] {0, 0, 1, 0, DOME, DOME, DOME, 0}, 1, 3);
        push.play(201);
        comesTo("barred from a push that climbs", push, 7);
    }
}
