import java.util.Arrays;
import java.util.List;
import java.util.Random;

/** Calls with any arguments in any state, and far more of them than are promised, throw only what is documented. */
public final class WildTests {

    private static final int OBJECTS = 40;
    private static final int CALLS = 3000;
    private static final List<String> INDEX_OR_STATE =
            Arrays.asList("IndexOutOfBoundsException", "IllegalStateException");
    private static final List<String> ARGUMENT_OR_STATE =
            Arrays.asList("IllegalArgumentException", "IllegalStateException");
    private static final List<String> ANY_OF_THREE =
            Arrays.asList("IndexOutOfBoundsException", "IllegalArgumentException", "IllegalStateException");
    private static final List<String> STATE = Arrays.asList("IllegalStateException");
    private static final List<String> INDEX = Arrays.asList("IndexOutOfBoundsException");
    private static final List<String> ARGUMENT = Arrays.asList("IllegalArgumentException");
    private static final List<String> NOTHING = Arrays.asList();

    private final Random chance;
    private final Stormroof game = new Stormroof();

    private WildTests(int seed) {
        chance = new Random(seed);
    }

    public static void main(String[] args) {
        for (int seed = 0; seed < OBJECTS; seed++) {
            WildTests one = new WildTests(seed);
            for (int i = 0; i < CALLS; i++) {
                one.callOne();
            }
        }
        Due.end();
    }

    private void callOne() {
        switch (chance.nextInt(18)) {
            case 0 -> maybeBegin();
            case 1, 2, 3 -> only("place", INDEX_OR_STATE, () -> game.place(some(25)));
            case 4 -> only("raise", ANY_OF_THREE, () -> game.raise(some(25), some(4)));
            case 5 -> only("onTurn", NOTHING, game::onTurn);
            case 6 -> only("winner", NOTHING, game::winner);
            case 7 -> only("height", INDEX, () -> game.height(some(25)));
            case 8 -> only("builderAt", INDEX, () -> game.builderAt(some(25)));
            case 9 -> only("played", NOTHING, game::played);
            case 10 -> only("turnCount", STATE, game::turnCount);
            case 11 -> only("turnAt", INDEX_OR_STATE, () -> game.turnAt(some(60)));
            case 12 -> only("play", STATE, () -> game.play(some(12000)));
            case 13, 14 -> only("play", INDEX_OR_STATE, () -> game.play(game.turnAt(some(30))));
            case 15 -> only("takeBack", STATE, game::takeBack);
            case 16 -> only("worth", ARGUMENT_OR_STATE, () -> game.worth(some(3)));
            default -> lookOrReach();
        }
    }

    /** Seldom a game that can be begun, so that the others come far. */
    private void maybeBegin() {
        if (chance.nextInt(4) == 0) {
            only("begin", ARGUMENT, () -> game.begin(2 + chance.nextInt(4), 2 + chance.nextInt(4),
                    1 + chance.nextInt(2), chance.nextInt(7), chance.nextInt(7)));
        } else {
            int wrong = chance.nextBoolean() ? 7 + chance.nextInt(1000) : -1 - chance.nextInt(1000);
            only("begin", ARGUMENT, () -> game.begin(some(5), some(5), some(2), wrong, some(6)));
        }
    }

    private void lookOrReach() {
        only("best", ARGUMENT_OR_STATE, () -> game.best(some(3)));
        only("reached", INDEX, () -> game.reached(some(1)));
    }

    private int some(int usual) {
        return chance.nextInt(12) == 0 ? chance.nextInt() : chance.nextInt(usual + 3) - 1;
    }

    private static void only(String what, List<String> documented, Due.Call call) {
        String outcome = Due.outcome(call);
        boolean isNumber = outcome.matches("-?[0-9]+");
        Due.is(what + " answered " + outcome + ", one of " + documented, isNumber || documented.contains(outcome), true);
    }
}
