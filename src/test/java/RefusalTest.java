import java.util.function.Supplier;

/**
 * Refused calls: the first error code that applies, and nothing changed by it. So it is with
 * questions, which change nothing either.
 */
public final class RefusalTest extends Checks {
    private static final int MIN = Integer.MIN_VALUE;
    private static final int MAX = Integer.MAX_VALUE;

    public static void main(String[] args) {
        refusedInEveryState("a new object", LiftingStairs::new);
        refusedInEveryState("some stairs", RefusalTest::some);
        refusedInEveryState("full stairs", RefusalTest::full);
        refusedInEveryState("a full buffer", RefusalTest::fullBuffer);
        refusedWhereNothingIs();
        refusedBySome();
        refusedByFullStairs();
        refusedByAFullBuffer();

        firstOfSeveralCodes();
        noneIsNoErrorCode();

        questionsChangeNothing("a new object", LiftingStairs::new);
        questionsChangeNothing("some stairs", RefusalTest::some);
        questionsChangeNothing("full stairs", RefusalTest::full);
        questionsChangeNothing("a full buffer", RefusalTest::fullBuffer);
        end();
    }

    /** Recorded states, a saved state that is another one, one who rests, a buffer that is no text. */
    private static LiftingStairs some() {
        LiftingStairs x = moves(onSteps(12, 3, 4, 0), "l7,c9>2");
        x.save();
        return fill(moves(x, "4,l4,c10>4,3"), "j,");
    }

    /** Six climbers, six carpets, landings wherever one can be, five recorded states. */
    private static LiftingStairs full() {
        LiftingStairs x = moves(stairs(10, 6), "c9>8,c7>0,c6>0,c5>1,c4>1,l1,l2");
        x.save();
        return fill(moves(x, "c3>2,l8,2,1,2"), "p!");
    }

    private static LiftingStairs fullBuffer() {
        return fill(moves(stairs(10, 2), "6,c9>1,l3"), "p,".repeat(30));
    }

    /** The call answers the code, and the object is then as one that was made alike without it. */
    private static void refused(Supplier<LiftingStairs> made, int code, String name, int a, int b) {
        LiftingStairs x = made.get();
        String what = name + "(" + a + ", " + b + ")";
        due(code, call(x, name, a, b), what);
        due(lookThrough(made.get()), lookThrough(x), "what there is behind " + what);
    }

    private static void refusedEach(Supplier<LiftingStairs> made, int code, String name, int... values) {
        for (int value : values) {
            refused(made, code, name, value, 0);
        }
    }

    /** What is out of every range is refused whatever there is. */
    private static void refusedInEveryState(String state, Supplier<LiftingStairs> made) {
        about("refused by " + state);
        int top = made.get().total(0);
        refusedEach(made, BAD_VALUE, "setTop", MIN, -1, 0, 9, 61, MAX);
        refusedEach(made, NO_SUCH, "lay", MIN, -1, 0, top, top + 1, MAX);
        for (int lower : new int[] {MIN, -1, 1, 2, MAX}) {
            refused(made, BAD_VALUE, "lay", 1, lower);
        }
        refused(made, BAD_VALUE, "lay", top - 1, top - 1);
        refused(made, BAD_VALUE, "lay", top - 1, -1);
        refusedEach(made, NO_SUCH, "take", MIN, -1, 0, top, top + 1, 60, MAX);
        refusedEach(made, NO_SUCH, "put", MIN, -1, 0, top, top + 1, 60, MAX);
        refusedEach(made, NO_SUCH, "remove", MIN, -1, 0, top, top + 1, 60, MAX);
        refusedEach(made, BAD_VALUE, "roll", MIN, -1, 0, 7, MAX);
        refusedEach(made, NO_SUCH, "climber", MIN, -1, 6, MAX);
        refusedEach(made, NO_SUCH, "on", MIN, -1, top, top + 1, MAX);
        refusedEach(made, NO_SUCH, "step", MIN, -1, top + 1, MAX);
        refusedEach(made, BAD_VALUE, "total", MIN, -1, 9, MAX);
        refusedEach(made, BAD_VALUE, "rank", MIN, -1);
        refusedEach(made, BAD_VALUE, "ifRolled", MIN, -1, 0, 7, MAX);
        for (int part : new int[] {MIN, -1, 3, MAX}) {
            refused(made, BAD_VALUE, "step", 0, part);
            refused(made, BAD_VALUE, "step", top, part);
        }
        for (int part : new int[] {MIN, -1, 5, MAX}) {
            refused(made, BAD_VALUE, "ifRolled", 6, part);
        }
        refusedEach(made, NO_SUCH, "rollsToTop", MIN, -1, 6, MAX);
        refusedEach(made, BAD_VALUE, "append", MIN, -1, 0, 32, 127, 256 + 'p', MAX);
        refusedEach(made, BAD_TEXT, "play", 0);
    }

    private static void refusedWhereNothingIs() {
        about("refused where nothing is");
        Supplier<LiftingStairs> made = LiftingStairs::new;
        refusedEach(made, NO_SUCH, "take", 1, 15, 29);
        refusedEach(made, NO_SUCH, "remove", 1, 15, 29);
        refusedEach(made, NOT_POSSIBLE, "roll", 1, 6);
        refusedEach(made, NOT_POSSIBLE, "pass", 0);
        refusedEach(made, NO_SUCH, "climber", 0, 5);
        refused(made, NOT_POSSIBLE, "ifRolled", 1, 0);
        refused(made, NOT_POSSIBLE, "ifRolled", 6, 4);
        refusedEach(made, NO_SUCH, "rollsToTop", 0, 5);
        refusedEach(made, NOT_POSSIBLE, "undo", 0);
        refusedEach(made, NOT_POSSIBLE, "restore", 0);
    }

    private static void refusedBySome() {
        about("refused by what there is");
        Supplier<LiftingStairs> made = RefusalTest::some;
        due(8, made.get().climber(1, 0), "1 on 8");
        refusedEach(made, NOT_POSSIBLE, "setTop", 10);
        refused(made, NOT_POSSIBLE, "lay", 10, 5);
        refused(made, NOT_POSSIBLE, "lay", 4, 1);
        refused(made, NOT_POSSIBLE, "lay", 11, 9);
        refused(made, NOT_POSSIBLE, "lay", 2, 0);
        refused(made, NOT_POSSIBLE, "lay", 7, 1);
        refused(made, NOT_POSSIBLE, "lay", 8, 0);
        refusedEach(made, NO_SUCH, "take", 2, 4, 7, 8, 11);
        refusedEach(made, NOT_POSSIBLE, "put", 4, 7, 9, 10);
        refusedEach(made, NO_SUCH, "remove", 1, 5, 9, 10, 11);
        refusedEach(made, NO_SUCH, "climber", 3);
        refused(made, BAD_VALUE, "climber", 2, 7);
        refused(made, BAD_VALUE, "climber", 0, -1);
        refusedEach(made, NO_SUCH, "rollsToTop", 3);
        refusedEach(made, BAD_TEXT, "play", 0);
    }

    private static void refusedByFullStairs() {
        about("refused by full stairs");
        Supplier<LiftingStairs> made = RefusalTest::full;
        due(6, made.get().total(1), "climbers");
        due(6, made.get().total(2), "carpets");
        due(3, made.get().total(3), "landings");
        refusedEach(made, LIMIT, "join", 0);
        refusedEach(made, NOT_POSSIBLE, "put", 1, 2, 3, 4, 5, 6, 7, 8, 9);
        for (int upper = 1; upper <= 9; upper++) {
            refused(made, NOT_POSSIBLE, "lay", upper, 0);
        }
        refusedEach(made, NO_SUCH, "take", 1, 2, 8);
        refusedEach(made, NO_SUCH, "remove", 3, 4, 5, 6, 7, 9);
        refused(made, BAD_VALUE, "climber", 5, 7);
        // A seventh carpet where the six leave room for one.
        Supplier<LiftingStairs> room = () -> moves(stairs(10, 1), "c9>0,c8>0,c7>0,c6>0,c5>0,c4>0");
        refused(room, LIMIT, "lay", 3, 2);
        refused(room, LIMIT, "lay", 1, 0);
    }

    private static void refusedByAFullBuffer() {
        about("refused by a full buffer");
        Supplier<LiftingStairs> made = RefusalTest::fullBuffer;
        due(60, made.get().clearText(), "characters");
        refusedEach(made, LIMIT, "append", 33, 'p', ',', 126);
        refusedEach(made, BAD_TEXT, "play", 0);
        refusedEach(() -> fill(stairs(10, 1), "p,".repeat(29) + "l9"), LIMIT, "append", 33, ',', 126);
    }

    /** "Each method lists its error codes in the order in which they are checked" */
    private static void firstOfSeveralCodes() {
        about("the first of several codes");
        due(BAD_VALUE, stairs(10, 1).setTop(9), "setTop(9), NOT_POSSIBLE too");
        due(BAD_VALUE, moves(stairs(10, 0), "l9").setTop(9), "setTop(9), NOT_POSSIBLE too");

        LiftingStairs x = full();
        due(NO_SUCH, x.lay(0, 0), "lay(0, 0), BAD_VALUE and NOT_POSSIBLE too");
        due(NO_SUCH, x.lay(10, 10), "lay(10, 10), BAD_VALUE and LIMIT too");
        due(NO_SUCH, x.lay(10, 9), "lay(10, 9), NOT_POSSIBLE and LIMIT too");
        due(BAD_VALUE, x.lay(9, 9), "lay(9, 9), NOT_POSSIBLE and LIMIT too");
        due(BAD_VALUE, x.lay(1, -1), "lay(1, -1), NOT_POSSIBLE and LIMIT too");
        due(NOT_POSSIBLE, x.lay(9, 8), "lay(9, 8) on an upper end, LIMIT too");
        due(NOT_POSSIBLE, x.lay(8, 2), "lay(8, 2) on a landing and a lower end, LIMIT too");

        LiftingStairs y = moves(onSteps(20, 8), "c19>1,c18>1,c17>1,c16>1,c15>1,c14>1,l9");
        due(NOT_POSSIBLE, y.lay(8, 0), "lay(8, 0) under a climber, LIMIT too");
        due(NOT_POSSIBLE, y.lay(9, 0), "lay(9, 0) on a landing, LIMIT too");
        due(NOT_POSSIBLE, y.lay(1, 0), "lay(1, 0) from a lower end, LIMIT too");
        due(BAD_VALUE, y.lay(8, 8), "lay(8, 8) under a climber, LIMIT too");
        due(LIMIT, y.lay(10, 9), "lay(10, 9), LIMIT alone");

        LiftingStairs none = new LiftingStairs();
        due(BAD_VALUE, none.roll(0), "roll(0), NOT_POSSIBLE too");
        due(BAD_VALUE, none.roll(7), "roll(7), NOT_POSSIBLE too");
        due(BAD_VALUE, none.ifRolled(0, 0), "ifRolled(0, 0), NOT_POSSIBLE too");
        due(BAD_VALUE, none.ifRolled(1, 5), "ifRolled(1, 5), NOT_POSSIBLE too");
        due(NO_SUCH, none.climber(0, 7), "climber(0, 7), BAD_VALUE too");
        due(NO_SUCH, full().climber(6, -1), "climber(6, -1), BAD_VALUE too");
        due(NO_SUCH, none.step(-1, 3), "step(-1, 3), BAD_VALUE too");
        due(NO_SUCH, none.step(31, -1), "step(31, -1), BAD_VALUE too");
        due(BAD_VALUE, fullBuffer().append(127), "append(127), LIMIT too");
        due(BAD_VALUE, fullBuffer().append(32), "append(32), LIMIT too");
    }

    /** "a method returns NONE only if no error code applies." */
    private static void noneIsNoErrorCode() {
        about("NONE only if no error code applies");
        due(BAD_VALUE, new LiftingStairs().rank(-1), "rank(-1) without climbers");
        due(NONE, new LiftingStairs().rank(0), "rank(0) without climbers");
        LiftingStairs stuck = moves(stairs(10, 1), "c1>0,c2>0,c3>0,c4>0,c5>0,c6>0");
        due(NONE, stuck.rollsToTop(0), "rollsToTop(0), the top cannot be reached");
        due(NO_SUCH, stuck.rollsToTop(1), "rollsToTop(1), no such climber");
        due(NO_SUCH, stuck.step(11, 1), "step(11, 1), no such step");
        due(NONE, stuck.step(10, 1), "step(10, 1), no carpet");
    }

    /** "predictions; they change nothing" - nor do the other questions, at any argument. */
    private static void questionsChangeNothing(String state, Supplier<LiftingStairs> made) {
        about("a question to " + state);
        String before = lookThrough(made.get());
        String[] names = {
            "climber", "turn", "on", "step", "total", "rank", "ifRolled", "bestRoll", "quietRolls",
            "rollsToTop", "errorPosition"
        };
        for (String name : names) {
            for (int a = -1; a <= 10; a++) {
                LiftingStairs x = made.get();
                for (int b = -1; b <= 7; b++) {
                    int first = call(x, name, a, b);
                    due(first, call(x, name, a, b), "again " + name + "(" + a + ", " + b + ")");
                }
                due(before, lookThrough(x), "what there is behind " + name + "(" + a + ", b)");
            }
        }
    }
}
