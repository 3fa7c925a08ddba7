import java.util.Arrays;
import java.util.TreeSet;
import java.util.function.IntUnaryOperator;
import java.util.function.ToIntFunction;

/** The edges of promises 1 to 26: a method a sentence or an argument's range. */
public final class EdgesOfPromisesTest extends Checks {
    public static void main(String[] args) {
        newObjectHasNothing();
        newObjectsShareNothing();

        setTopRange();
        setTopReturnsThePrevious();
        setTopAboveAllThereIs();
        setTopLeavesNothingBehind();

        layRanges();
        layCountsCarpets();
        layWhereClimbersAre();
        takeOnlyUpperEnds();
        takeReturnsTheLowerEnd();
        putRange();
        putUnderClimbers();
        removeOnlyLandings();
        removeCountsClimbers();

        joinNumbers();
        rollRange();
        rollReturnsTheStep();
        passReturnsTheMover();

        climberRanges();
        climberPartsAtTheirEnds();
        turnAtItsEnds();
        onRange();
        onBits();
        stepRanges();
        stepPartsAtTheirEnds();
        totalRange();
        totalsAtTheirEnds();
        rankRange();
        rankOrder();

        ifRolledRanges();
        ifRolledPartsAtTheirEnds();
        bestRollEachNumber();
        bestRollWhereAllLose();
        bestRollByTheOthers();
        quietRollsAtItsEnds();
        rollsToTopRange();
        rollsToTopFromEachStep();
        rollsToTopPastCarpets();
        rollsToTopIfNobodyElseWasThere();

        appendRange();
        clearTextCounts();
        errorPositionAtItsEnds();
        playCountsMoves();
        playStopsAtTheFirstRefused();
        playRecordsOneState();
        playOfNoTextStays();

        undoCountsDown();
        undoOfEachMethod();
        saveCountsAndOverwrites();
        restoreWithoutAndWith();
        restoreIsRecorded();
        end();
    }

    /** The code is due below low and above high, and no error between. Each call has its own object. */
    private static void range(int low, int high, int code, String what, IntUnaryOperator call) {
        TreeSet<Integer> inside = new TreeSet<>();
        for (int value = low; value <= high; value++) {
            inside.add(value);
        }
        only(inside, code, what, call);
    }

    /** The code is due for all values but these, for which no error is. */
    private static void only(TreeSet<Integer> inside, int code, String what, IntUnaryOperator call) {
        for (int value : values()) {
            int got = call.applyAsInt(value);
            if (!inside.contains(value)) {
                due(code, got, what + " with " + value);
            } else if (got < 0 && got != NONE) {
                due("no error", "error " + got, what + " with " + value);
            }
        }
    }

    /** Those about all ranges, the ends of int, and such as look like the first ones in fewer bits. */
    private static TreeSet<Integer> values() {
        TreeSet<Integer> values = new TreeSet<>();
        for (int value = -70; value <= 140; value++) {
            values.add(value);
            values.add(value + 256);
            values.add(value + 65536);
            values.add(Integer.MIN_VALUE + value);
        }
        return values;
    }

    private static TreeSet<Integer> these(Integer... values) {
        return new TreeSet<>(Arrays.asList(values));
    }

    // ---- Promise 1

    private static void newObjectHasNothing() {
        about("1: a new object has nothing");
        LiftingStairs x = new LiftingStairs();
        int[] totals = {30, 0, 0, 0, 0, 0, 0, 0, 0};
        for (int what = 0; what < 9; what++) {
            due(totals[what], x.total(what), "total(" + what + ")");
        }
        for (int step = 0; step <= 30; step++) {
            due(0, x.step(step, 0), "landing at " + step);
            due(NONE, x.step(step, 1), "upper end at " + step);
            due(0, x.step(step, 2), "lower ends at " + step);
            due(step < 30 ? 0 : NO_SUCH, x.on(step), "on(" + step + ")");
        }
        due(NO_SUCH, x.climber(0, 0), "climber(0, 0)");
        due(NONE, x.turn(), "turn()");
        due(NONE, x.rank(0), "rank(0)");
        due(NONE, x.bestRoll(), "bestRoll()");
        due(NONE, x.quietRolls(), "quietRolls()");
        due(NO_SUCH, x.rollsToTop(0), "rollsToTop(0)");
        due(NOT_POSSIBLE, x.ifRolled(1, 0), "ifRolled(1, 0)");
        due(0, x.errorPosition(), "errorPosition()");
        due(BAD_TEXT, x.play(), "play()");
        due(0, x.clearText(), "clearText()");
        due(NOT_POSSIBLE, x.undo(), "undo()");
        due(NOT_POSSIBLE, x.restore(), "restore()");
        due(NO_SUCH, x.take(1), "take(1)");
        due(NO_SUCH, x.remove(1), "remove(1)");
        due(NOT_POSSIBLE, x.pass(), "pass()");
        due(NOT_POSSIBLE, x.roll(1), "roll(1)");
    }

    private static void newObjectsShareNothing() {
        about("1: an object made beside another one");
        LiftingStairs before = new LiftingStairs();
        LiftingStairs busy = moves(onSteps(12, 3, 4), "c9>2,l7,5");
        busy.save();
        fill(busy, "p,p");
        LiftingStairs behind = new LiftingStairs();
        String nothing = lookThrough(new LiftingStairs());
        due(nothing, lookThrough(before), "one made before");
        due(nothing, lookThrough(behind), "one made behind");
    }

    // ---- Promise 2

    private static void setTopRange() {
        about("2: top is 10 to 60");
        range(10, 60, BAD_VALUE, "setTop", v -> new LiftingStairs().setTop(v));
        range(10, 60, BAD_VALUE, "setTop of 60 steps", v -> stairs(60, 1).setTop(v));
    }

    private static void setTopReturnsThePrevious() {
        about("2: the previous top");
        LiftingStairs x = new LiftingStairs();
        int[] tops = {30, 30, 10, 60, 60, 10, 10, 11, 59};
        for (int i = 1; i < tops.length; i++) {
            due(tops[i - 1], x.setTop(tops[i]), "setTop(" + tops[i] + ")");
            due(tops[i], x.total(0), "the top then");
        }
    }

    /** "NOT_POSSIBLE if a climber, a landing or the upper end of a carpet is not below it." */
    private static void setTopAboveAllThereIs() {
        about("2: all has to be below the top");
        for (int top = 10; top <= 60; top++) {
            for (int step = 9; step <= 59; step++) {
                String what = "setTop(" + top + ") with what is on " + step;
                int want = step < top ? 60 : NOT_POSSIBLE;
                LiftingStairs landing = stairs(60, 0);
                landing.put(step);
                due(want, landing.setTop(top), what + ", a landing");
                LiftingStairs carpet = stairs(60, 0);
                carpet.lay(step, 0);
                due(want, carpet.setTop(top), what + ", an upper end");
                due(want, onSteps(60, step).setTop(top), what + ", a climber");
                due(want, onSteps(60, 0, 0, 0, 0, 0, step).setTop(top), what + ", the last climber");
            }
        }
        due(30, stairs(30, 6).setTop(10), "with six climbers on the ground");
        LiftingStairs x = stairs(30, 0);
        x.lay(10, 9);
        due(NOT_POSSIBLE, x.setTop(10), "only the lower end is below");
        due(30, x.setTop(11), "both ends are below");
        x.take(10);
        due(11, x.setTop(10), "no carpet any more");
    }

    private static void setTopLeavesNothingBehind() {
        about("2: steps that come again");
        LiftingStairs x = stairs(60, 0);
        x.put(59);
        x.lay(58, 57);
        x.remove(59);
        x.take(58);
        x.setTop(10);
        due(NO_SUCH, x.step(11, 0), "step(11, 0)");
        due(NO_SUCH, x.put(10), "put(10)");
        due(NO_SUCH, x.lay(10, 0), "lay(10, 0)");
        due(1, x.put(9), "put(9)");
        due(10, x.setTop(60), "setTop(60)");
        due(2, x.put(59), "put(59)");
        due(1, x.lay(58, 57), "lay(58, 57)");
        due(0, x.step(10, 0), "step(10, 0)");
    }

    // ---- Promises 3 and 4

    private static void layRanges() {
        about("3: upper is 1 to the step below the top, lower 0 to the step below upper");
        for (int top : new int[] {10, 30, 60}) {
            range(1, top - 1, NO_SUCH, "lay(upper, 0), top " + top, v -> stairs(top, 0).lay(v, 0));
            for (int upper : new int[] {1, 2, top - 1}) {
                range(0, upper - 1, BAD_VALUE, "lay(" + upper + ", lower)", v -> stairs(top, 0).lay(upper, v));
            }
        }
        due(NO_SUCH, new LiftingStairs().lay(Integer.MIN_VALUE, Integer.MIN_VALUE), "the least of both");
        due(NO_SUCH, new LiftingStairs().lay(Integer.MAX_VALUE, Integer.MAX_VALUE), "the greatest of both");
    }

    private static void layCountsCarpets() {
        about("3: the number of carpets then");
        LiftingStairs x = stairs(60, 0);
        int[] uppers = {59, 1, 30, 2, 58, 29};
        for (int i = 0; i < 6; i++) {
            due(i + 1, x.lay(uppers[i], 0), "lay(" + uppers[i] + ", 0)");
            due(i + 1, x.total(2), "total(2)");
        }
        x.take(1);
        x.take(59);
        due(4, x.total(2), "total(2) behind two take()");
        due(5, x.lay(59, 57), "lay(59, 57)");
    }

    /** "if a climber is on the step upper": not one above, below, or on the lower end. */
    private static void layWhereClimbersAre() {
        about("3: no climber on the step upper");
        for (int mover = 0; mover < 6; mover++) {
            int[] steps = new int[6];
            steps[mover] = 5;
            due(NOT_POSSIBLE, onSteps(10, steps).lay(5, 0), "climber " + mover + " on the step upper");
            due(1, onSteps(10, steps).lay(6, 5), "climber " + mover + " on the lower end");
            due(1, onSteps(10, steps).lay(4, 0), "climber " + mover + " above");
        }
        due(NOT_POSSIBLE, onSteps(10, 9).lay(9, 0), "below the top");
        due(NOT_POSSIBLE, onSteps(10, 1).lay(1, 0), "behind the ground");
        due(1, stairs(10, 6).lay(1, 0), "six climbers on the ground, the lower end");
    }

    private static void takeOnlyUpperEnds() {
        about("4: only upper ends");
        range(1, 0, NO_SUCH, "take() without carpets", v -> stairs(60, 0).take(v));
        only(these(1, 9, 30, 57, 58, 59), NO_SUCH, "take()", v -> {
            LiftingStairs x = moves(stairs(60, 0), "c59>0,c58>10,c57>56,c30>10,c9>8,c1>0,l8,l10");
            return x.take(v);
        });
    }

    private static void takeReturnsTheLowerEnd() {
        about("4: its lower end");
        LiftingStairs x = moves(stairs(60, 0), "c59>0,c58>57,c1>0");
        due(0, x.take(59), "take(59)");
        due(57, x.take(58), "take(58)");
        due(0, x.take(1), "take(1)");
        due(0, x.total(2), "carpets");
        due(NO_SUCH, x.take(59), "take(59) again");
        x.undo();
        due(0, x.take(1), "take(1) behind undo()");
    }

    // ---- Promises 5 and 6

    private static void putRange() {
        about("5: step is 1 to the step below the top");
        for (int top : new int[] {10, 30, 60}) {
            range(1, top - 1, NO_SUCH, "put(), top " + top, v -> stairs(top, 0).put(v));
        }
    }

    private static void putUnderClimbers() {
        about("5: a landing under climbers");
        LiftingStairs x = onSteps(10, 0, 1, 9);
        due(1, x.put(1), "put(1) under 1");
        due(2, x.put(9), "put(9) under 2");
        due(0, x.climber(1, 2), "1 has not to rest");
        due(126, x.quietRolls(), "1 cannot be lifted");
        due(1, x.pass(), "1 is not left out");
        due(2, x.pass(), "2 is not left out");
    }

    private static void removeOnlyLandings() {
        about("6: only landings");
        range(1, 0, NO_SUCH, "remove() without landings", v -> stairs(60, 0).remove(v));
        only(these(1, 8, 30, 59), NO_SUCH, "remove()", v -> {
            LiftingStairs x = moves(stairs(60, 0), "l1,l8,l30,l59,c9>8,c58>0");
            return x.remove(v);
        });
    }

    private static void removeCountsClimbers() {
        about("6: the number of climbers on it");
        for (int count = 0; count <= 6; count++) {
            int[] steps = {5, 5, 5, 5, 5, 5};
            Arrays.fill(steps, 0, 6 - count, 4);
            LiftingStairs x = onSteps(10, steps);
            x.put(5);
            due(count, x.remove(5), "remove(5) with " + count);
            due(NO_SUCH, x.remove(5), "remove(5) again");
            due(0, x.total(3), "landings");
        }
        LiftingStairs x = moves(stairs(10, 2), "l1,1");
        due(1, x.remove(1), "remove(1) under one who rests");
        due(1, x.climber(0, 2), "who has still to rest");
        due(1, x.pass(), "and is left out");
    }

    // ---- Promises 7 to 9

    private static void joinNumbers() {
        about("7: the number of the climber");
        LiftingStairs x = new LiftingStairs();
        for (int c = 0; c < 6; c++) {
            due(c, x.join(), "join()");
        }
        due(LIMIT, x.join(), "the seventh join()");
        due(LIMIT, x.join(), "the eighth join()");
        due(6, x.total(1), "climbers");
    }

    private static void rollRange() {
        about("8: number is 1 to 6");
        range(1, 6, BAD_VALUE, "roll()", v -> stairs(30, 1).roll(v));
        range(1, 6, BAD_VALUE, "roll() of 6", v -> stairs(10, 6).roll(v));
        for (int number = 0; number <= 7; number++) {
            int want = number < 1 || number > 6 ? BAD_VALUE : NOT_POSSIBLE;
            due(want, new LiftingStairs().roll(number), "roll(" + number + ") without climbers");
        }
    }

    /** "Returns the step on which this climber is then" */
    private static void rollReturnsTheStep() {
        about("8: the step then");
        due(1, stairs(10, 1).roll(1), "the least");
        due(59, onSteps(60, 58).roll(1), "the greatest");
        due(59, onSteps(60, 53).roll(6), "the greatest, by 6");
        due(0, onSteps(60, 59).roll(1), "the top");
        due(0, onSteps(60, 59).roll(6), "far above the top");
        due(58, moves(onSteps(60, 58), "c59>58").roll(1), "a short carpet");
        due(0, moves(onSteps(60, 58), "c59>0").roll(1), "a long carpet");
        due(59, moves(onSteps(60, 58), "l59").roll(1), "a landing");
        due(6, onSteps(10, 0, 5, 5).roll(6), "not that of those who are lifted");
    }

    /** "Returns the climber who is on the move then; NOT_POSSIBLE if there are no climbers." */
    private static void passReturnsTheMover() {
        about("9: the climber on the move then");
        LiftingStairs x = new LiftingStairs();
        due(NOT_POSSIBLE, x.pass(), "pass() without climbers");
        x.join();
        due(0, x.pass(), "pass() alone");
        due(0, x.total(4), "a pass is no roll");
        x.undo();
        due(0, x.undo(), "undo() of join()");
        due(NOT_POSSIBLE, x.pass(), "pass() without climbers again");
        LiftingStairs y = moves(stairs(10, 6), "l1,1,1,1,1,1");
        due(5, y.turn(), "turn()");
        due(5, y.pass(), "all but 5 are left out");
        due(5, y.total(8), "turns left out");
        due(0, y.pass(), "none is left out");
    }

    // ---- Promises 10 to 12

    private static void climberRanges() {
        about("10: climber and part");
        for (int count = 0; count <= 6; count++) {
            int climbers = count;
            range(0, count - 1, NO_SUCH, "climber(c, 0) of " + count, v -> stairs(30, climbers).climber(v, 0));
            range(0, count - 1, NO_SUCH, "climber(c, 6) of " + count, v -> stairs(30, climbers).climber(v, 6));
        }
        range(0, 6, BAD_VALUE, "climber(0, part)", v -> stairs(30, 1).climber(0, v));
        range(0, 6, BAD_VALUE, "climber(5, part)", v -> stairs(30, 6).climber(5, v));
    }

    private static void climberPartsAtTheirEnds() {
        about("10: each part");
        // All five others are lifted by one roll, twice.
        LiftingStairs x = onSteps(10, 0, 1, 1, 1, 1, 1);
        x.roll(2);
        int[][] want = {{2, 0, 0, 0, 5, 0, 2}, {2, 0, 0, 1, 0, 0, 2}, {2, 0, 0, 1, 0, 0, 2}};
        parts(x, 0, want[0]);
        parts(x, 1, want[1]);
        parts(x, 5, want[2]);
        // From below the top: a top, no slip; then a carpet, no top.
        LiftingStairs y = moves(onSteps(60, 59, 57), "c58>0,1");
        parts(y, 0, new int[] {0, 1, 0, 0, 0, 0, 60});
        y.roll(1);
        parts(y, 1, new int[] {0, 0, 0, 0, 0, 1, 0});
        // To the landing below the top, a turn ahead of the rest.
        LiftingStairs z = moves(onSteps(10, 7, 9, 8), "p,p");
        z.put(9);
        moves(z, "1,p");
        parts(z, 2, new int[] {9, 0, 1, 0, 0, 0, 9});
    }

    private static void parts(LiftingStairs x, int climber, int[] want) {
        for (int part = 0; part < want.length; part++) {
            due(want[part], x.climber(climber, part), "climber(" + climber + ", " + part + ")");
        }
    }

    private static void turnAtItsEnds() {
        about("11: NONE without climbers, else 0 to the last one");
        LiftingStairs x = new LiftingStairs();
        due(NONE, x.turn(), "without climbers");
        x.put(3);
        due(NONE, x.turn(), "with a landing");
        for (int c = 0; c < 6; c++) {
            x.join();
        }
        for (int c = 0; c < 6; c++) {
            due(c, x.turn(), "turn()");
            x.pass();
        }
        due(0, x.turn(), "from 0 again");
    }

    private static void onRange() {
        about("12: step is 0 to the step below the top");
        for (int top : new int[] {10, 30, 60}) {
            range(0, top - 1, NO_SUCH, "on(), top " + top, v -> stairs(top, 1).on(v));
        }
    }

    /** "bit c is 1 if the climber c is on it" */
    private static void onBits() {
        about("12: a bit for each climber");
        due(0, stairs(30, 0).on(0), "without climbers");
        for (int count = 1; count <= 6; count++) {
            due((1 << count) - 1, stairs(30, count).on(0), "the ground with " + count);
            due(0, stairs(30, count).on(1), "on(1)");
            due(0, stairs(30, count).on(29), "on(29)");
        }
        for (int c = 0; c < 6; c++) {
            int[] steps = new int[6];
            steps[c] = 9;
            due(1 << c, onSteps(10, steps).on(9), "climber " + c + " below the top");
            due(63 - (1 << c), onSteps(10, steps).on(0), "the others on the ground");
        }
    }

    // ---- Promises 13 to 15

    private static void stepRanges() {
        about("13: step and part");
        for (int top : new int[] {10, 30, 60}) {
            for (int part = 0; part <= 2; part++) {
                int asked = part;
                range(0, top, NO_SUCH, "step(s, " + part + "), top " + top, v -> stairs(top, 0).step(v, asked));
            }
            for (int step : new int[] {0, 1, top - 1, top}) {
                range(0, 2, BAD_VALUE, "step(" + step + ", part)", v -> stairs(top, 0).step(step, v));
            }
        }
    }

    private static void stepPartsAtTheirEnds() {
        about("13: each part");
        LiftingStairs x = moves(stairs(10, 0), "c9>0,c8>0,c7>0,c6>0,c5>0,c4>0,l1,l3");
        due(6, x.step(0, 2), "six lower ends on the ground");
        for (int step = 0; step <= 10; step++) {
            boolean upper = step >= 4 && step <= 9;
            due(step == 1 || step == 3 ? 1 : 0, x.step(step, 0), "step(" + step + ", 0)");
            due(upper ? 0 : NONE, x.step(step, 1), "step(" + step + ", 1)");
            due(step == 0 ? 6 : 0, x.step(step, 2), "step(" + step + ", 2)");
        }
        LiftingStairs y = moves(stairs(60, 0), "c59>58,c1>0,l58");
        due(58, y.step(59, 1), "step(59, 1)");
        due(1, y.step(58, 2), "step(58, 2)");
        due(1, y.step(58, 0), "a lower end that is a landing");
        due(0, y.step(1, 1), "step(1, 1), the ground");
        due(NONE, y.step(60, 1), "step(60, 1)");
        due(0, y.step(60, 0), "step(60, 0)");
        due(0, y.step(60, 2), "step(60, 2)");
        // What was below a greater top is not told of the top.
        y.take(59);
        y.remove(58);
        y.setTop(59);
        due(NONE, y.step(59, 1), "step(59, 1), the top then");
    }

    private static void totalRange() {
        about("14: what is 0 to 8");
        range(0, 8, BAD_VALUE, "total()", v -> new LiftingStairs().total(v));
        range(0, 8, BAD_VALUE, "total() of 6", v -> stairs(60, 6).total(v));
    }

    private static void totalsAtTheirEnds() {
        about("14: each number");
        LiftingStairs x = moves(stairs(60, 6), "c59>0,c58>0,c57>0,c56>0,c55>0,c54>0");
        for (int step = 1; step <= 53; step++) {
            x.put(step);
        }
        int[] full = {60, 6, 6, 53, 0, 0, 0, 0, 0};
        totals(x, full);
        x.roll(7);
        x.pass();
        totals(x, full);
        x.roll(1);
        x.undo();
        totals(x, full);
        // A roll that lifts five to the top.
        LiftingStairs y = onSteps(10, 8, 9, 9, 9, 9, 9);
        int rolls = y.total(4);
        y.roll(2);
        totals(y, new int[] {10, 6, 0, 0, rolls + 1, 5, 0, 6, 0});
        LiftingStairs z = moves(onSteps(10, 0, 5, 5, 5, 5, 5), "c6>1");
        rolls = z.total(4);
        z.roll(6);
        totals(z, new int[] {10, 6, 1, 0, rolls + 1, 5, 6, 0, 0});
        // Rolls of play() count, too.
        fill(z, "1,p,1").play();
        due(rolls + 3, z.total(4), "rolls");
    }

    private static void totals(LiftingStairs x, int[] want) {
        for (int what = 0; what < 9; what++) {
            due(want[what], x.total(what), "total(" + what + ")");
        }
    }

    /** "BAD_VALUE if place is negative; NONE if there are not so many climbers." */
    private static void rankRange() {
        about("15: place");
        for (int count = 0; count <= 6; count++) {
            LiftingStairs x = stairs(30, count);
            for (int place : new int[] {Integer.MIN_VALUE, Integer.MIN_VALUE + 1, -65536, -256, -7, -6, -1}) {
                due(BAD_VALUE, x.rank(place), "rank(" + place + ") of " + count);
            }
            for (int place = 0; place < count; place++) {
                due(place, x.rank(place), "rank(" + place + ") of " + count);
            }
            for (int place : new int[] {count, count + 1, 7, 256, 65536, Integer.MAX_VALUE}) {
                due(NONE, x.rank(place), "rank(" + place + ") of " + count);
            }
        }
    }

    /** "by progress, the greatest first, of several the one with the lower number." */
    private static void rankOrder() {
        about("15: the order");
        ranks(onSteps(60, 1, 2, 3, 4, 5, 59), 5, 4, 3, 2, 1, 0);
        ranks(onSteps(60, 59, 5, 4, 3, 2, 1), 0, 1, 2, 3, 4, 5);
        ranks(onSteps(60, 0, 7, 0, 7, 7, 8), 5, 1, 3, 4, 0, 2);
        ranks(onSteps(60, 9, 9, 9, 9, 9, 9), 0, 1, 2, 3, 4, 5);
        // One more top is more than the step below the top.
        ranks(moves(onSteps(10, 9, 0, 9), "p,p,1,p,p"), 2, 0, 1);
        LiftingStairs x = moves(onSteps(10, 9, 8), "1,p");
        ranks(x, 0, 1);
        x.setTop(60);
        ranks(x, 0, 1);
    }

    private static void ranks(LiftingStairs x, int... order) {
        for (int place = 0; place < order.length; place++) {
            due(order[place], x.rank(place), "rank(" + place + ")");
        }
        due(NONE, x.rank(order.length), "rank(" + order.length + ")");
    }

    // ---- Promise 16

    private static void ifRolledRanges() {
        about("16: number and part");
        for (int count : new int[] {1, 6}) {
            range(1, 6, BAD_VALUE, "ifRolled(n, 0)", v -> stairs(30, count).ifRolled(v, 0));
            range(1, 6, BAD_VALUE, "ifRolled(n, 4)", v -> stairs(30, count).ifRolled(v, 4));
            range(0, 4, BAD_VALUE, "ifRolled(1, part)", v -> stairs(30, count).ifRolled(1, v));
            range(0, 4, BAD_VALUE, "ifRolled(6, part)", v -> stairs(30, count).ifRolled(6, v));
        }
        for (int number = 0; number <= 7; number++) {
            for (int part = -1; part <= 5; part++) {
                boolean out = number < 1 || number > 6 || part < 0 || part > 4;
                due(out ? BAD_VALUE : NOT_POSSIBLE, new LiftingStairs().ifRolled(number, part),
                    "ifRolled(" + number + ", " + part + ") without climbers");
            }
        }
    }

    private static void ifRolledPartsAtTheirEnds() {
        about("16: each part");
        rolled(stairs(30, 1), 1, 1, 0, 0, 0, 0);
        rolled(stairs(30, 1), 6, 6, 0, 0, 0, 0);
        rolled(stairs(30, 6), 6, 6, 0, 0, 0, 1);
        // The most lifts, tops and slips that there can be.
        rolled(onSteps(10, 0, 5, 4, 3, 2, 1), 6, 6, 5, 0, 0, 1);
        rolled(onSteps(10, 8, 9, 9, 9, 9, 9), 2, 0, 5, 6, 0, 1);
        rolled(onSteps(10, 8, 9, 9, 9, 9, 9), 1, 9, 0, 0, 0, 1);
        rolled(moves(onSteps(10, 0, 5, 5, 5, 5, 5), "c6>4"), 6, 4, 5, 0, 6, 1);
        rolled(moves(onSteps(10, 0, 5, 5, 5, 5, 5), "c6>4"), 5, 5, 0, 0, 0, 1);
        // Tops, lifts and slips that there were before are not told.
        LiftingStairs x = moves(onSteps(10, 8, 9, 9), "c4>0,2,4");
        due(2, x.turn(), "turn()");
        rolled(x, 1, 1, 0, 0, 0, 0);
        rolled(x, 4, 0, 0, 0, 1, 0);
        // The turn goes round, past those who rest.
        LiftingStairs y = moves(stairs(10, 6), "l1,1,1,1,1,1");
        rolled(y, 1, 1, 0, 0, 0, 0);
        rolled(y, 2, 2, 0, 0, 0, 5);
        rolled(onTheMove(stairs(10, 6), 5), 2, 2, 0, 0, 0, 0);
    }

    private static void rolled(LiftingStairs x, int number, int... want) {
        String before = look(x);
        for (int part = 0; part < want.length; part++) {
            due(want[part], x.ifRolled(number, part), "ifRolled(" + number + ", " + part + ")");
        }
        same(before, x, "behind ifRolled(" + number + ", part)");
    }

    // ---- Promise 17

    /** "of several the lowest": from k steps below the top, the rolls from k on bring the same. */
    private static void bestRollEachNumber() {
        about("17: of several the lowest");
        due(NONE, stairs(30, 0).bestRoll(), "without climbers");
        for (int top : new int[] {10, 60}) {
            for (int below = 1; below <= top; below++) {
                due(Math.min(6, below), onSteps(top, top - below).bestRoll(), below + " below the top " + top);
            }
        }
        LiftingStairs x = stairs(10, 1);
        for (int number = 6; number >= 1; number--) {
            due(number, x.bestRoll(), "carpets from " + (number + 1) + " on");
            x.lay(number, 0);
        }
        due(1, x.bestRoll(), "where nothing is to be won");
    }

    private static void bestRollWhereAllLose() {
        about("17: the least loss");
        due(6, moves(onSteps(30, 10), "c11>0,c12>1,c13>2,c14>3,c15>4,c16>5").bestRoll(), "the last one");
        due(1, moves(onSteps(30, 10), "c11>5,c12>4,c13>3,c14>2,c15>1,c16>0").bestRoll(), "the first one");
        due(3, moves(onSteps(30, 10), "c11>0,c12>0,c13>9,c14>9,c15>8,c16>0").bestRoll(), "the third one");
        LiftingStairs x = moves(onSteps(30, 10, 11, 11, 11, 11, 11), "c13>0,c14>0,c15>0,c16>0");
        due(1, x.bestRoll(), "each other roll lifts five");
    }

    /** "less the growth of the progress of all others together" */
    private static void bestRollByTheOthers() {
        about("17: less the growth of the others");
        due(6, onSteps(30, 0, 1, 1, 1, 1).bestRoll(), "6 less 4 is more than 1");
        due(1, onSteps(30, 0, 1, 1, 1, 1, 1).bestRoll(), "6 less 5 is as much as 1");
        due(5, onSteps(30, 0, 5, 5, 5, 5, 0).bestRoll(), "5 is more than 6 less 4");
        due(5, onSteps(30, 0, 5, 0, 0, 0, 0).bestRoll(), "5 is as much as 6 less 1");
        due(6, onSteps(30, 0, 6, 6, 6, 6, 6).bestRoll(), "nobody is passed");
        // 3 to 6 let 1 slip from 3 to the ground, which is a gain of 3, and 0 from 1, a loss of 1.
        LiftingStairs x = moves(onSteps(30, 1, 3), "c4>0,c5>0,c6>0,c7>0");
        due(2, x.bestRoll(), "2 is as much as 3 less 1");
        x.take(5);
        due(4, x.bestRoll(), "4 and 3");
        // One who is lifted to the top grows by one, though the step is the ground then.
        due(1, onSteps(10, 8, 9).bestRoll(), "1 is as much as 2 less 1");
    }

    // ---- Promises 18 and 19

    private static void quietRollsAtItsEnds() {
        about("18: from 2, which is the roll 1 alone, to 126");
        due(NONE, stairs(30, 0).quietRolls(), "without climbers");
        due(126, stairs(30, 1).quietRolls(), "alone");
        due(126, stairs(30, 6).quietRolls(), "all on the ground");
        int[] masks = {126, 2, 6, 14, 30, 62, 126, 126};
        for (int ahead = 0; ahead <= 7; ahead++) {
            due(masks[ahead], onSteps(30, 10, 10 + ahead).quietRolls(), "another one " + ahead + " ahead");
            due(126, onSteps(30, 10, 10 - ahead).quietRolls(), "another one " + ahead + " behind");
            LiftingStairs last = onSteps(30, 10, 29, 29, 29, 29, 10 + ahead);
            due(masks[ahead], last.quietRolls(), "the last one " + ahead + " ahead");
            LiftingStairs landing = onSteps(30, 10, 10 + ahead);
            landing.put(10 + ahead);
            due(126, landing.quietRolls(), "another one on a landing " + ahead + " ahead");
        }
        due(126, onSteps(10, 9, 0, 1, 2, 9).quietRolls(), "from below the top");
        due(6, onSteps(10, 7, 9).quietRolls(), "one below the top is passed by each roll above it");
        due(14, onTheMove(onSteps(30, 3, 0), 1).quietRolls(), "1 on the move, 0 three ahead");
    }

    private static void rollsToTopRange() {
        about("19: climber");
        for (int count = 0; count <= 6; count++) {
            int climbers = count;
            range(0, count - 1, NO_SUCH, "rollsToTop() of " + count, v -> stairs(30, climbers).rollsToTop(v));
        }
    }

    private static void rollsToTopFromEachStep() {
        about("19: from each step");
        for (int top : new int[] {10, 11, 12, 13, 30, 59, 60}) {
            for (int step = 0; step < top; step++) {
                due((top - step + 5) / 6, onSteps(top, step).rollsToTop(0), "from " + step + " of " + top);
            }
        }
    }

    /** "NONE if the top cannot be reached": six carpets in a row, and one less. */
    private static void rollsToTopPastCarpets() {
        about("19: past carpets");
        for (int top : new int[] {10, 60}) {
            for (int first = 1; first + 5 < top; first++) {
                String what = "from " + first + " on, of " + top;
                due(NONE, carpets(top, first, 6).rollsToTop(0), "six carpets " + what);
                // The only ways past five: from the step below them, by a 6.
                int toThem = first - 1;
                int behindThem = top - (first + 5);
                due((toThem + 5) / 6 + 1 + (behindThem + 5) / 6, carpets(top, first, 5).rollsToTop(0),
                    "five carpets " + what);
            }
        }
        LiftingStairs above = moves(onSteps(60, 6), "c1>0,c2>0,c3>0,c4>0,c5>0");
        due(9, above.rollsToTop(0), "above five carpets");
        LiftingStairs below = moves(onSteps(10, 4), "c5>0,c6>0,c7>0,c8>0,c9>0");
        due(1, below.rollsToTop(0), "five carpets below the top");
        LiftingStairs stuck = moves(onSteps(10, 3), "c4>0,c5>0,c6>0,c7>0,c8>0,c9>0");
        due(NONE, stuck.rollsToTop(0), "six carpets below the top");
        stuck.take(4);
        due(2, stuck.rollsToTop(0), "from 3 by 4");
        LiftingStairs slips = moves(onSteps(60, 10), "c11>0,c12>0,c13>1,c14>2,c15>3,c16>4");
        due(NONE, slips.rollsToTop(0), "six carpets to other steps");
    }

    private static LiftingStairs carpets(int top, int first, int count) {
        LiftingStairs x = stairs(top, 1);
        for (int i = 0; i < count; i++) {
            x.lay(first + i, 0);
        }
        return x;
    }

    /** "if nobody else was there; turns do not matter." */
    private static void rollsToTopIfNobodyElseWasThere() {
        about("19: nobody else, no turns");
        LiftingStairs x = onSteps(30, 0, 29, 5, 5, 5, 5);
        for (int step = 6; step < 30; step++) {
            x.put(step);
        }
        due(5, x.rollsToTop(0), "of 0, with landings everywhere");
        due(1, x.rollsToTop(1), "of 1");
        due(5, x.rollsToTop(5), "of 5, who is not on the move");
        LiftingStairs y = moves(stairs(30, 2), "l6,6");
        due(1, y.climber(0, 2), "0 has to rest");
        due(4, y.rollsToTop(0), "of 0 who has to rest");
        LiftingStairs z = moves(onSteps(10, 9), "6");
        due(2, z.rollsToTop(0), "of one who has been at the top");
    }

    // ---- Promises 20 to 22

    private static void appendRange() {
        about("20: code is 33 to 126");
        range(33, 126, BAD_VALUE, "append()", v -> new LiftingStairs().append(v));
        range(1, 0, BAD_VALUE, "append() to 60, out of range", v -> {
            int got = fill(new LiftingStairs(), "x".repeat(60)).append(v);
            due(v < 33 || v > 126 ? BAD_VALUE : LIMIT, got, "append(" + v + ") to 60");
            return BAD_VALUE;
        });
        LiftingStairs x = new LiftingStairs();
        for (int i = 1; i <= 60; i++) {
            due(i, x.append(i % 2 == 0 ? 33 : 126), "character " + i);
        }
        due(LIMIT, x.append(33), "character 61");
    }

    private static void clearTextCounts() {
        about("21: the number of characters that it contained");
        for (int length = 0; length <= 60; length++) {
            LiftingStairs x = fill(new LiftingStairs(), "x".repeat(length));
            due(length, x.clearText(), "clearText() of " + length);
            due(0, x.clearText(), "clearText() again");
            due(0, x.errorPosition(), "errorPosition() of nothing");
        }
        LiftingStairs x = fill(new LiftingStairs(), "x".repeat(60));
        x.append(33);
        due(60, x.clearText(), "clearText() behind a refused character");
        for (int i = 1; i <= 60; i++) {
            due(i, x.append('p'), "character " + i + " behind clearText()");
        }
        due(LIMIT, x.append('p'), "character 61 behind clearText()");
    }

    private static void errorPositionAtItsEnds() {
        about("22: from 0 to the number of characters");
        String text = "p,".repeat(30);
        for (int length = 0; length <= 60; length++) {
            LiftingStairs x = fill(new LiftingStairs(), text.substring(0, length));
            due(length % 2 == 1 ? NONE : length, x.errorPosition(), "errorPosition() of " + length);
        }
        for (int at = 0; at < 60; at++) {
            LiftingStairs x = fill(new LiftingStairs(), text.substring(0, at) + "!" + text.substring(at + 1));
            due(at, x.errorPosition(), "an error at " + at + " of 60");
            LiftingStairs y = fill(new LiftingStairs(), text.substring(0, at) + "!");
            due(at, y.errorPosition(), "an error at the end, " + at);
        }
        String[] full = {
            "p,".repeat(29) + "l0", "l0," + "p,".repeat(28) + "p", "p,".repeat(28) + "c1>1",
            "p,".repeat(30), "l0," + "p,".repeat(28) + "c", "l0," + "p,".repeat(28) + "l",
            "p,".repeat(29) + "c1", "p,".repeat(28) + "c12>", "l0," + "p,".repeat(27) + "c1>"
        };
        for (int i = 0; i < full.length; i++) {
            due(60, full[i].length(), "characters of " + full[i]);
            // The first three are texts; the others begin texts that are longer than the buffer.
            due(i < 3 ? NONE : 60, fill(new LiftingStairs(), full[i]).errorPosition(), full[i]);
        }
    }

    // ---- Promise 23

    /** "Returns the number of moves that are made": from 0 to 30. */
    private static void playCountsMoves() {
        about("23: the number of moves that are made");
        for (int count = 1; count <= 30; count++) {
            LiftingStairs x = stairs(30, 1);
            due(count, fill(x, "1" + ",1".repeat(count - 1)).play(), "play() of " + count + " rolls");
            due(count, x.total(4), "rolls");
            due(count % 30, x.climber(0, 0), "the step then");
            due(0, x.clearText(), "what is left");
        }
        due(29, fill(stairs(30, 1), "1,".repeat(29) + "l0").play(), "60 characters, the last move is refused");
        LiftingStairs x = stairs(60, 0);
        due(2, fill(x, "l59,c58>57").play(), "the greatest numbers");
        due(1, x.step(59, 0), "landing at 59");
        due(57, x.step(58, 1), "carpet at 58");
        due(2, fill(x, "l1,c2>0").play(), "the least numbers");
        due(1, x.step(1, 0), "landing at 1");
        due(0, x.step(2, 1), "carpet at 2");
    }

    /** "up to the first one whose method ... would return an error code, and empties the buffer" */
    private static void playStopsAtTheFirstRefused() {
        about("23: up to the first one that is refused");
        String[] texts = {
            "1,j", "6,j", "p,j", "l0,j", "l10,j", "l99,j", "l9,l9,j", "c9>8,l9,j", "l9,c9>8,j",
            "c0>0,j", "c10>0,j", "c99>98,j", "c9>9,j", "c8>9,j", "c9>8,c9>7,j", "c9>8,c8>7,j",
            "c8>7,c9>8,j", "c4>0,c5>0,c6>0,c7>0,c8>0,c9>0,c3>0,j"
        };
        int[] made = {0, 0, 0, 0, 0, 0, 1, 1, 1, 0, 0, 0, 0, 0, 1, 1, 1, 6};
        for (int i = 0; i < texts.length; i++) {
            LiftingStairs x = fill(stairs(10, 0), texts[i]);
            due(made[i], x.play(), texts[i]);
            due(0, x.total(1), "climbers behind " + texts[i]);
            due(0, x.clearText(), "what is left of " + texts[i]);
        }
        LiftingStairs six = fill(stairs(10, 0), "j,j,j,j,j,j,j,l1");
        due(6, six.play(), "the seventh join");
        due(0, six.total(3), "landings");
        LiftingStairs under = fill(stairs(10, 0), "j,3,c3>0,j");
        due(2, under.play(), "a carpet under a climber");
        due(1, under.total(1), "climbers");
    }

    /** "The moves do not record states; the call records one state, also if no move is made." */
    private static void playRecordsOneState() {
        about("23: records one state");
        for (String text : new String[] {"j", "j,1,1,1,1,1,1,p", "p", "l0,j"}) {
            LiftingStairs x = stairs(30, 0);
            for (int top = 31; top <= 35; top++) {
                x.setTop(top);
            }
            String before = look(x);
            due("no error", fill(x, text).play() < 0 ? "error" : "no error", "play() of " + text);
            due(4, x.undo(), "undo() of " + text);
            same(before, x, "behind undo() of " + text);
            for (int left = 3; left >= 0; left--) {
                due(left, x.undo(), "undo()");
                due(31 + left, x.total(0), "the top behind undo()");
            }
            due(NOT_POSSIBLE, x.undo(), "the oldest one was discarded");
        }
        LiftingStairs first = fill(new LiftingStairs(), "p");
        due(0, first.play(), "play() of no move");
        due(0, first.undo(), "undo() of no move");
        due(NOT_POSSIBLE, first.undo(), "undo() of none");
    }

    /** "BAD_TEXT if the buffer is not a text (then it stays)" */
    private static void playOfNoTextStays() {
        about("23: BAD_TEXT, then it stays");
        for (String text : new String[] {"", "j,", "x", "j,x", "j,j,7", "p,".repeat(30), "j,".repeat(29) + "jj"}) {
            LiftingStairs x = fill(stairs(10, 1), text);
            due(BAD_TEXT, x.play(), "play() of '" + text + "'");
            due(BAD_TEXT, x.play(), "play() again of '" + text + "'");
            due(1, x.total(1), "climbers");
            due(text.length(), x.clearText(), "what is left of '" + text + "'");
            due(1, x.undo(), "nothing is recorded");
        }
        LiftingStairs x = fill(stairs(10, 0), "j,");
        due(BAD_TEXT, x.play(), "play() of 'j,'");
        x.append('j');
        due(2, x.play(), "play() of 'j,j'");
        due(BAD_TEXT, x.play(), "play() of what is empty then");
    }

    // ---- Promises 24 to 26

    /** "Returns the number of recorded states that remain; NOT_POSSIBLE if there is none." */
    private static void undoCountsDown() {
        about("24: the number of recorded states that remain");
        LiftingStairs x = new LiftingStairs();
        due(NOT_POSSIBLE, x.undo(), "undo() of none");
        x.join();
        due(0, x.undo(), "undo() of the first one");
        due(NOT_POSSIBLE, x.undo(), "undo() is not recorded itself");
        due(0, x.total(1), "climbers");
        for (int c = 0; c < 6; c++) {
            x.join();
        }
        for (int left = 4; left >= 0; left--) {
            due(left, x.undo(), "undo()");
            due(left + 1, x.total(1), "climbers");
        }
        due(NOT_POSSIBLE, x.undo(), "undo() of none");
        due(1, x.total(1), "climbers");
        due(1, x.join(), "join()");
        due(0, x.undo(), "undo() of the only one");
    }

    /** Each undoable method, and none of the others. */
    private static void undoOfEachMethod() {
        about("24: each undoable method, no other one");
        undone("setTop", x -> x.setTop(20));
        undone("lay", x -> x.lay(10, 4));
        undone("take", x -> x.take(14));
        undone("put", x -> x.put(5));
        undone("remove", x -> x.remove(7));
        undone("join", x -> x.join());
        undone("roll", x -> x.roll(5));
        undone("pass", x -> x.pass());
        undone("play", x -> fill(x, "2,p").play());
        undone("restore", x -> x.restore());
        notRecorded("climber", x -> x.climber(0, 6));
        notRecorded("turn", x -> x.turn());
        notRecorded("on", x -> x.on(4));
        notRecorded("step", x -> x.step(7, 0));
        notRecorded("total", x -> x.total(8));
        notRecorded("rank", x -> x.rank(0));
        notRecorded("ifRolled", x -> x.ifRolled(5, 4));
        notRecorded("bestRoll", x -> x.bestRoll());
        notRecorded("quietRolls", x -> x.quietRolls());
        notRecorded("rollsToTop", x -> x.rollsToTop(1));
        notRecorded("append", x -> x.append('j'));
        notRecorded("clearText", x -> x.clearText());
        notRecorded("errorPosition", x -> x.errorPosition());
        notRecorded("save", x -> x.save());
    }

    private static void undone(String name, ToIntFunction<LiftingStairs> call) {
        LiftingStairs x = twoRecorded();
        String before = look(x);
        due("no error", call.applyAsInt(x) < 0 ? "error" : "no error", name);
        due("changed", before.equals(look(x)) ? "unchanged" : "changed", "the state behind " + name);
        due(2, x.undo(), "undo() of " + name);
        same(before, x, "behind undo() of " + name);
        due(1, x.undo(), "undo() of what was before");
    }

    private static void notRecorded(String name, ToIntFunction<LiftingStairs> call) {
        LiftingStairs x = twoRecorded();
        String before = look(x);
        due("no error", call.applyAsInt(x) < 0 ? "error" : "no error", name);
        same(before, x, "behind " + name);
        due(1, x.undo(), "undo() behind " + name);
    }

    /** Two recorded states, a saved state that is another one, and a buffer. */
    private static LiftingStairs twoRecorded() {
        LiftingStairs x = moves(stairs(30, 0), "j,j,l4,l7,c14>2");
        x.save();
        moves(x, "p,p,p,p,p");
        for (int left = 4; left >= 0; left--) {
            due(left, x.undo(), "undo()");
        }
        return fill(moves(x, "4,l12"), "1,");
    }

    /** "Returns the number of climbers"; "overwrites the state that was saved before." */
    private static void saveCountsAndOverwrites() {
        about("25: saves the state");
        for (int count = 0; count <= 6; count++) {
            LiftingStairs x = stairs(10, count);
            String seen = look(x);
            due(count, x.save(), "save() of " + count);
            x.setTop(11);
            due(count, x.restore(), "restore() of " + count);
            same(seen, x, "behind restore() of " + count);
            moves(x, "l9,c8>1");
            String then = look(x);
            due(count, x.save(), "save() over that");
            x.remove(9);
            due(count, x.restore(), "restore() of the later one");
            same(then, x, "behind restore() of the later one");
            due(count, x.save(), "save() of what is saved");
        }
        LiftingStairs y = new LiftingStairs();
        y.save();
        due(NOT_POSSIBLE, y.undo(), "save() is not recorded");
        y.join();
        y.save();
        due(0, y.undo(), "undo() of join()");
        due(0, y.total(1), "climbers behind undo()");
        due(1, y.restore(), "undo() leaves the saved state");
    }

    /** "it remains saved"; "NOT_POSSIBLE if no state was saved." */
    private static void restoreWithoutAndWith() {
        about("26: makes the saved state current");
        LiftingStairs x = stairs(30, 2);
        due(NOT_POSSIBLE, x.restore(), "without a saved state");
        due(1, x.undo(), "nothing is recorded");
        LiftingStairs y = new LiftingStairs();
        String nothing = look(y);
        due(0, y.save(), "save() of nothing");
        y.setTop(20);
        moves(y, "j,j,j,j,j,j,l19,c18>17,6");
        String much = look(y);
        due(0, y.restore(), "restore() of nothing");
        same(nothing, y, "nothing");
        due(NONE, y.turn(), "turn()");
        due(0, y.restore(), "restore() again, it remains saved");
        y.undo();
        due(3, y.undo(), "undo() of the first restore()");
        same(much, y, "all there was");
        due(6, y.save(), "save() of all there was");
        y.remove(19);
        y.take(18);
        y.setTop(10);
        due(6, y.restore(), "restore() of all there was");
        same(much, y, "all there was");
    }

    private static void restoreIsRecorded() {
        about("26: undoable");
        LiftingStairs x = stairs(30, 2);
        x.save();
        for (int i = 0; i < 7; i++) {
            due(2, x.restore(), "restore() " + i);
        }
        for (int left = 4; left >= 0; left--) {
            due(left, x.undo(), "undo() of restore()");
            due(2, x.total(1), "climbers");
        }
        due(NOT_POSSIBLE, x.undo(), "undo() of none");
        due(2, x.restore(), "restore() when nothing is recorded");
        due(0, x.undo(), "undo() of restore()");
    }
}
