/** The edges of the sentences under "## Terms": a method a sentence, which is told ahead of it. */
public final class EdgesOfTermsTest extends Checks {
    public static void main(String[] args) {
        stepsFromGroundToTop();
        landingsFromOneToBelowTop();
        atMostSixCarpets();
        carpetsGoDown();
        noTwoUpperEnds();
        noUpperEndIsALowerEnd();
        noLandingAtAnUpperEnd();

        atMostSixClimbers();
        climbersBeginWithNothing();
        severalOnTheSameStep();
        climbersAreBelowTheTop();

        comingToTheTopOrAbove();
        comingToTheTopByALift();
        comingToACarpet();
        comingToACarpetByALift();
        notTouchedByTheGround();
        notTouchedByALowerEnd();
        noRestByALift();

        rollsFromOneToSix();
        passedAreBetween();
        passedBelowTheTop();
        passedExceptOnLandings();
        passedAreFoundFirst();
        passedByNoClimberAndBySix();
        rollerComesBehindTheLifts();
        rollerRestsOnALanding();

        firstWhoJoinsIsOnTheMove();
        turnGoesRoundBehindTheLast();
        turnGoesToOneWhoJustJoined();
        restingIsLeftOutOnce();
        turnGoesRoundWhileAllRest();

        progressAtItsEnds();
        bufferOfSixtyCharacters();
        aTextHasAMove();
        rollsInTexts();
        numbersInTexts();
        errorsByCharacter();

        recordedIfItMakesNoDifference();
        atMostFiveRecorded();
        stateIsEverythingElse();
        end();
    }

    // ---- Stairs

    /** "The steps are numbered from 0 (the ground) to the top, 10 to 60, at the beginning 30." */
    private static void stepsFromGroundToTop() {
        about("steps from the ground to the top");
        due(30, new LiftingStairs().total(0), "the top at the beginning");
        for (int top : new int[] {10, 30, 60}) {
            LiftingStairs x = stairs(top, 0);
            due(NO_SUCH, x.step(-1, 0), "step(-1, 0)");
            due(0, x.step(0, 0), "step(0, 0)");
            due(0, x.step(top, 0), "step(top, 0), top " + top);
            due(NO_SUCH, x.step(top + 1, 0), "step(top + 1, 0), top " + top);
        }
        LiftingStairs x = new LiftingStairs();
        due(BAD_VALUE, x.setTop(9), "setTop(9)");
        due(30, x.setTop(10), "setTop(10)");
        due(BAD_VALUE, x.setTop(61), "setTop(61)");
        due(10, x.setTop(60), "setTop(60)");
    }

    /** "There can be landings: some steps from 1 to the step below the top." */
    private static void landingsFromOneToBelowTop() {
        about("landings from 1 to the step below the top");
        for (int top : new int[] {10, 30, 60}) {
            LiftingStairs x = stairs(top, 0);
            due(0, x.total(3), "landings at the beginning");
            due(NO_SUCH, x.put(0), "put(0)");
            due(NO_SUCH, x.put(top), "put(top), top " + top);
            for (int step = 1; step < top; step++) {
                due(step, x.put(step), "put(" + step + "), top " + top);
            }
            due(NOT_POSSIBLE, x.put(1), "put(1), where all are landings");
            due(NOT_POSSIBLE, x.put(top - 1), "put(top - 1), where all are landings");
            due(top - 1, x.total(3), "landings, top " + top);
        }
    }

    /** "There can be at most 6 carpets" */
    private static void atMostSixCarpets() {
        about("at most 6 carpets");
        LiftingStairs x = stairs(30, 0);
        for (int i = 1; i <= 6; i++) {
            due(i - 1, x.total(2), "carpets ahead of the carpet " + i);
            due(i, x.lay(20 + i, 5), "the carpet " + i);
        }
        due(LIMIT, x.lay(20, 5), "a seventh carpet");
        due(6, x.total(2), "carpets");
        due(5, x.take(23), "take(23)");
        due(6, x.lay(20, 5), "a sixth carpet again");
        due(LIMIT, x.lay(23, 5), "a seventh carpet again");
        due(4, x.undo(), "undo() of the sixth");
        due(6, x.lay(23, 5), "a sixth carpet behind undo()");
    }

    /** "a carpet goes from an upper step, which is below the top, down to a lower one." */
    private static void carpetsGoDown() {
        about("carpets go down from below the top");
        for (int top : new int[] {10, 60}) {
            LiftingStairs x = stairs(top, 0);
            due(NO_SUCH, x.lay(0, 0), "from the ground");
            due(NO_SUCH, x.lay(top, 5), "from the top " + top);
            due(NO_SUCH, x.lay(top + 1, 5), "from above the top " + top);
            due(1, x.lay(1, 0), "the lowest one");
            due(2, x.lay(top - 1, top - 2), "the highest one, top " + top);
            due(3, x.lay(top - 3, 0), "a long one");
            due(BAD_VALUE, x.lay(5, 5), "to its own step");
            due(BAD_VALUE, x.lay(5, 6), "up");
            due(BAD_VALUE, x.lay(5, -1), "below the ground");
            due(4, x.lay(5, 4), "one step down");
        }
    }

    /** "No step has the upper ends of two carpets" */
    private static void noTwoUpperEnds() {
        about("no two upper ends on a step");
        LiftingStairs x = stairs(30, 0);
        x.lay(20, 7);
        due(NOT_POSSIBLE, x.lay(20, 8), "another one from 20");
        due(NOT_POSSIBLE, x.lay(20, 7), "the same one");
        due(2, x.lay(21, 7), "another one to 7");
        due(7, x.step(20, 1), "the first one stays");
        x.take(20);
        due(2, x.lay(20, 8), "another one behind take(20)");
    }

    /** "no upper end of a carpet is the lower end of another one" */
    private static void noUpperEndIsALowerEnd() {
        about("no upper end is a lower end");
        LiftingStairs x = stairs(30, 0);
        x.lay(20, 10);
        due(NOT_POSSIBLE, x.lay(25, 20), "down to an upper end");
        due(NOT_POSSIBLE, x.lay(10, 5), "from a lower end");
        due(2, x.lay(25, 19), "down to below an upper end");
        due(3, x.lay(24, 21), "down to above an upper end");
        due(4, x.lay(9, 5), "from below a lower end");
        due(5, x.lay(11, 10), "from above a lower end, to the same lower end");
        x.take(20);
        due(NOT_POSSIBLE, x.lay(10, 4), "from the other carpet's lower end");
        x.take(11);
        due(4, x.lay(10, 4), "from what was a lower end");
        due(5, x.lay(26, 20), "down to what was an upper end");
        LiftingStairs y = stairs(30, 0);
        y.lay(1, 0);
        due(2, y.lay(2, 0), "to the ground again");
        due(NOT_POSSIBLE, y.lay(3, 1), "down to the lowest upper end");
        y.lay(29, 28);
        due(NOT_POSSIBLE, y.lay(28, 27), "from the highest lower end");
    }

    /** "no landing is at the upper end of a carpet." */
    private static void noLandingAtAnUpperEnd() {
        about("no landing at an upper end");
        LiftingStairs x = stairs(10, 0);
        x.lay(9, 8);
        x.lay(2, 1);
        due(NOT_POSSIBLE, x.put(9), "put(9)");
        due(NOT_POSSIBLE, x.put(2), "put(2)");
        due(1, x.put(8), "at the lower end 8");
        due(2, x.put(1), "at the lower end 1");
        due(3, x.put(3), "between");
        due(NOT_POSSIBLE, x.lay(3, 0), "from a landing");
        due(3, x.lay(4, 3), "to a landing");
        x.remove(3);
        due(NOT_POSSIBLE, x.lay(3, 0), "from what is a lower end then");
        x.take(4);
        due(3, x.lay(3, 0), "from what was a landing");
        x.take(9);
        due(3, x.put(9), "where a carpet was");
    }

    // ---- Climbers

    /** "There are at most 6 climbers, numbered from 0 in the order in which they joined." */
    private static void atMostSixClimbers() {
        about("at most 6 climbers");
        LiftingStairs x = stairs(30, 0);
        for (int c = 0; c < 6; c++) {
            due(NO_SUCH, x.climber(c, 0), "climber(" + c + ", 0) ahead of join()");
            due(c, x.join(), "join() " + c);
            due(0, x.climber(c, 0), "climber(" + c + ", 0)");
        }
        due(LIMIT, x.join(), "a seventh join()");
        due(NO_SUCH, x.climber(6, 0), "climber(6, 0)");
        due(6, x.total(1), "climbers");
        due(4, x.undo(), "undo() of the sixth");
        due(NO_SUCH, x.climber(5, 0), "climber(5, 0) behind undo()");
        due(5, x.join(), "a sixth join() again");
        due(LIMIT, x.join(), "a seventh join() again");
    }

    /** "at the beginning on the ground", "tops ..., and turns to rest, 0 at the beginning." */
    private static void climbersBeginWithNothing() {
        about("climbers begin with nothing");
        LiftingStairs x = onSteps(10, 5, 4);
        moves(x, "j,p,3,p,l3");
        due(1, x.climber(1, 4), "1 lifted 0");
        for (int part = 0; part < 7; part++) {
            due(0, x.climber(2, part), "climber(2, " + part + ") of one who joined late");
        }
        due(4, x.on(0), "on(0)");
        // What a climber had who is undone is not given to the next one.
        LiftingStairs y = moves(stairs(10, 1), "j,p,3,5,6");
        due(1, y.climber(1, 1), "tops of 1");
        due(1, y.climber(1, 3), "1 was lifted");
        due(1, y.climber(1, 4), "1 lifted 0");
        for (int left = 4; left >= 0; left--) {
            due(left, y.undo(), "undo()");
        }
        due(1, y.total(1), "climbers behind undo()");
        due(1, y.join(), "join()");
        for (int part = 0; part < 7; part++) {
            due(0, y.climber(1, part), "climber(1, " + part + ") of the next climber 1");
        }
    }

    /** "several can be on the same step." */
    private static void severalOnTheSameStep() {
        about("several on the same step");
        LiftingStairs x = stairs(30, 6);
        due(63, x.on(0), "all on the ground");
        for (int c = 0; c < 6; c++) {
            due(5, x.roll(5), "roll(5) of " + c);
        }
        due(63, x.on(5), "all on 5");
        due(0, x.total(5), "nobody is lifted");
        due(0, x.on(0), "nobody on the ground");
    }

    /** "Each one is on a step below the top" */
    private static void climbersAreBelowTheTop() {
        about("climbers are below the top");
        LiftingStairs x = onSteps(11, 9, 10);
        due(2, x.on(10), "on(10)");
        due(NO_SUCH, x.on(11), "on(11)");
        due(NOT_POSSIBLE, x.setTop(10), "setTop(10) with a climber on 10");
        due(0, moves(x, "p").roll(1), "1 onto the top");
        due(11, x.setTop(10), "setTop(10) with a climber on 9");
        due(1, x.on(9), "on(9)");
    }

    // ---- To come to a step

    /**
     * "A climber who comes to a step that is the top, or would be above it, has one more top, and
     * goes to the ground."
     */
    private static void comingToTheTopOrAbove() {
        about("coming to the top or above");
        for (int top : new int[] {10, 30, 60}) {
            for (int step = top - 6; step < top; step++) {
                for (int number = 1; number <= 6; number++) {
                    LiftingStairs x = onSteps(top, step);
                    int then = step + number;
                    String what = "roll(" + number + ") from " + step + " of " + top;
                    due(then < top ? then : 0, x.roll(number), what);
                    due(then < top ? 0 : 1, x.climber(0, 1), "tops behind " + what);
                    due(then < top ? 0 : 1, x.total(7), "tops of all behind " + what);
                    due(then < top ? then : top, x.climber(0, 6), "progress behind " + what);
                }
            }
        }
        LiftingStairs x = moves(onSteps(10, 9), "6,2,6,2");
        due(2, x.climber(0, 1), "a second top");
        due(0, x.climber(0, 0), "the ground again");
    }

    /** The same of those who are lifted: they come to the step above theirs, not higher. */
    private static void comingToTheTopByALift() {
        about("coming to the top by a lift");
        LiftingStairs x = onSteps(10, 5, 9, 8);
        due(0, x.roll(6), "0 over both, and above the top");
        due(0, x.climber(1, 0), "1, lifted from 9");
        due(1, x.climber(1, 1), "tops of 1");
        due(10, x.climber(1, 6), "progress of 1");
        due(9, x.climber(2, 0), "2, lifted from 8");
        due(0, x.climber(2, 1), "tops of 2");
        due(1, x.climber(0, 1), "tops of 0");
        due(2, x.total(7), "tops of all");
        due(2, x.total(5), "lifts");
        LiftingStairs y = onSteps(10, 8, 9, 9, 9, 9, 9);
        due(0, y.roll(2), "0 over five, onto the top");
        due(6, y.total(7), "tops of all");
        due(63, y.on(0), "all on the ground");
        LiftingStairs z = onSteps(60, 58, 59);
        due(0, z.roll(2), "0 over 1, onto the greatest top");
        due(60, z.climber(1, 6), "progress of 1");
    }

    /**
     * "A climber who comes to the upper end of a carpet slips: goes to its lower end. Otherwise the
     * climber is on this step."
     */
    private static void comingToACarpet() {
        about("coming to a carpet");
        LiftingStairs x = moves(stairs(10, 1), "c1>0,c9>8,c5>4");
        due(0, x.roll(1), "the lowest carpet");
        due(1, x.climber(0, 5), "slips");
        due(4, x.roll(4), "the step below a carpet");
        due(4, x.roll(1), "a carpet back to where the climber was");
        due(6, x.roll(2), "the step above a carpet");
        due(8, x.roll(3), "the carpet below the top");
        due(8, x.roll(1), "the same one from its lower end");
        due(4, x.climber(0, 5), "slips");
        due(4, x.total(6), "slips of all");
        due(0, x.climber(0, 1), "tops");
        due(0, x.roll(2), "over the carpet onto the top");
        due(4, x.climber(0, 5), "no slip at the top");
        x.take(1);
        due(1, x.roll(1), "where no carpet is any more");
        due(4, x.climber(0, 5), "slips");
    }

    /** The same of those who are lifted. */
    private static void comingToACarpetByALift() {
        about("coming to a carpet by a lift");
        LiftingStairs x = moves(onSteps(10, 4, 8, 6, 5), "c9>0,c7>5");
        due(0, x.total(6), "no slips so far");
        due(0, x.roll(5), "0 over all, slips with 1");
        due(0, x.climber(1, 0), "1 slips from 9 to the ground");
        due(5, x.climber(2, 0), "2 slips from 7");
        due(6, x.climber(3, 0), "3 is lifted from 5 to 6");
        due(1, x.climber(0, 5), "slips of 0");
        due(1, x.climber(1, 5), "slips of 1");
        due(1, x.climber(2, 5), "slips of 2");
        due(0, x.climber(3, 5), "slips of 3");
        due(3, x.total(6), "slips of all");
        due(1, x.climber(1, 3), "1 was lifted");
        due(3, x.climber(0, 4), "0 lifted three");
        due(0, x.total(7), "tops of all");
    }

    /** "(Nobody slips, rests or is lifted by going to the ground ...)" */
    private static void notTouchedByTheGround() {
        about("nobody slips, rests or is lifted by going to the ground");
        LiftingStairs x = moves(onSteps(10, 6, 7, 0), "c9>0,l5");
        due(0, x.roll(6), "0 over 1, above the top");
        due(0, x.climber(0, 2), "0 has not to rest");
        due(0, x.climber(0, 5), "0 did not slip");
        due(0, x.climber(2, 3), "2 on the ground is not lifted");
        due(8, x.climber(1, 0), "1 on 8");
        due(0, x.roll(1), "1 slips from 9 to the ground");
        due(0, x.climber(1, 2), "1 has not to rest");
        due(0, x.climber(0, 3), "0 on the ground is not lifted");
        due(0, x.climber(2, 3), "2 on the ground is not lifted");
        due(7, x.on(0), "all on the ground");
        due(1, x.total(5), "lifts");
    }

    /** "(Nobody slips, rests or is lifted by going ... to the lower end of a carpet ...)" */
    private static void notTouchedByALowerEnd() {
        about("nobody slips, rests or is lifted by going to a lower end");
        LiftingStairs x = moves(onSteps(20, 6, 7, 3), "c10>2,l2,c8>7");
        due(2, x.roll(4), "0 over 1 to the carpet at 10");
        due(0, x.climber(0, 2), "0 has not to rest on the landing 2");
        due(0, x.total(8), "nobody was left out");
        due(7, x.climber(1, 0), "1 is lifted to 8 and slips back to 7");
        due(1, x.climber(1, 3), "1 is lifted once");
        due(3, x.climber(2, 0), "2, whom 0 passes downwards, is not lifted");
        due(2, x.total(6), "slips");
        moves(x, "p,p");
        due(0, x.turn(), "0 is on the move again, without a rest");
    }

    /** "(... nobody has to rest by being lifted to a landing.)" */
    private static void noRestByALift() {
        about("nobody rests by being lifted to a landing");
        LiftingStairs x = moves(onSteps(10, 5, 8), "l9");
        due(0, x.roll(6), "0 over 1");
        due(9, x.climber(1, 0), "1 is lifted to the landing 9");
        due(0, x.climber(1, 2), "1 has not to rest");
        due(1, x.turn(), "1 is on the move");
        due(0, x.total(8), "nobody was left out");
    }

    // ---- Rolls

    /** "The climber on the move rolls a number n from 1 to 6." */
    private static void rollsFromOneToSix() {
        about("a number from 1 to 6");
        LiftingStairs x = stairs(30, 2);
        due(BAD_VALUE, x.roll(0), "roll(0)");
        due(BAD_VALUE, x.roll(7), "roll(7)");
        due(BAD_VALUE, x.roll(-1), "roll(-1)");
        due(0, x.turn(), "0 is still on the move");
        due(1, x.roll(1), "roll(1)");
        due(6, x.roll(6), "roll(6)");
        due(1, x.climber(0, 3), "0 is lifted by 1");
    }

    /** "all others on steps greater than s and less than s + n" */
    private static void passedAreBetween() {
        about("passed: above s and below s + n");
        for (int number = 1; number <= 6; number++) {
            for (int step = 4; step <= 11; step++) {
                LiftingStairs x = onSteps(30, 4, step);
                boolean passed = step > 4 && step < 4 + number;
                String what = "roll(" + number + ") from 4, another on " + step;
                due(4 + number, x.roll(number), what);
                due(passed ? step + 1 : step, x.climber(1, 0), "the other behind " + what);
                due(passed ? 1 : 0, x.climber(1, 3), "lifted: " + what);
                due(passed ? 1 : 0, x.climber(0, 4), "lifts: " + what);
                due(0, x.climber(0, 3), "the roller is not lifted: " + what);
                due(0, x.climber(1, 4), "the other one lifts nobody: " + what);
            }
        }
    }

    /** The same where s + n is above the top: the step below the top is the last one. */
    private static void passedBelowTheTop() {
        about("passed, where s + n is above the top");
        LiftingStairs x = onSteps(10, 9, 9, 8, 0);
        x.roll(6);
        due(0, x.total(5), "nobody is lifted by a roll from below the top");
        due(9, x.climber(1, 0), "1 on the same step");
        LiftingStairs y = onSteps(10, 8, 9, 8, 1);
        y.roll(6);
        due(1, y.total(5), "only the one on 9 is lifted");
        due(1, y.climber(1, 1), "tops of 1");
        due(8, y.climber(2, 0), "2 on the same step");
        due(1, y.climber(3, 0), "3 on 1, where no roll goes round to");
    }

    /** "except those on landings" */
    private static void passedExceptOnLandings() {
        about("passed: except those on landings");
        LiftingStairs x = moves(onSteps(10, 2, 3, 4, 5, 6, 7), "l3,l5,l7");
        x.roll(6);
        due(3, x.climber(1, 0), "1 on a landing");
        due(5, x.climber(2, 0), "2 on 4, lifted to a landing");
        due(5, x.climber(3, 0), "3 on a landing");
        due(7, x.climber(4, 0), "4 on 6, lifted to a landing");
        due(7, x.climber(5, 0), "5 on a landing");
        due(2, x.total(5), "lifts");
        due(1, x.ifRolled(6, 1), "1 from 3 would lift only 0 on 8");
        x.remove(5);
        due(3, x.ifRolled(6, 1), "and both on 5, no landing any more");
    }

    /** "First, the climbers who are passed are found": each one is lifted once, by one step. */
    private static void passedAreFoundFirst() {
        about("passed are found first");
        LiftingStairs x = onSteps(20, 0, 1, 2, 3, 4, 5);
        due(6, x.roll(6), "0 over five");
        for (int c = 1; c <= 5; c++) {
            due(c + 1, x.climber(c, 0), "climber " + c);
            due(1, x.climber(c, 3), "lifts of climber " + c);
        }
        due(5, x.total(5), "lifts");
        // The numbers from the highest step down.
        LiftingStairs y = onSteps(20, 0, 5, 4, 3, 2, 1);
        due(6, y.roll(6), "0 over five");
        for (int c = 1; c <= 5; c++) {
            due(7 - c, y.climber(c, 0), "climber " + c);
            due(1, y.climber(c, 3), "lifts of climber " + c);
        }
        // One who slips to a step that is passed, and one who slips to one who is passed.
        LiftingStairs z = moves(onSteps(20, 0, 5, 2), "c6>2");
        due(2, z.roll(6), "0 over both, slips with 1");
        due(2, z.climber(1, 0), "1 is not lifted again");
        due(3, z.climber(2, 0), "2 is lifted once");
    }

    /** The same with nobody there, and with all on one step. */
    private static void passedByNoClimberAndBySix() {
        about("passed: nobody, and five on one step");
        LiftingStairs x = stairs(10, 1);
        x.roll(6);
        due(0, x.total(5), "alone");
        LiftingStairs y = onSteps(10, 0, 3, 3, 3, 3, 3);
        y.roll(4);
        due(5, y.climber(0, 4), "five on 3");
        due(63, y.on(4), "all on 4");
        due(5, y.total(5), "lifts");
        LiftingStairs z = onSteps(10, 3, 3, 3, 3, 3, 0);
        onTheMove(z, 5).roll(4);
        due(5, z.climber(5, 4), "five on 3, passed by the last one");
        due(63, z.on(4), "all on 4");
    }

    /** "Then the climber who rolled comes to the step s + n": s is the step ahead of the roll. */
    private static void rollerComesBehindTheLifts() {
        about("the roller comes to s + n");
        LiftingStairs x = onSteps(10, 1, 2);
        due(3, x.roll(2), "0 over 1");
        due(3, x.on(3), "both on 3");
        due(0, x.climber(0, 3), "the roller is not lifted");
        due(9, x.roll(6), "1 from 3");
    }

    /** "if this is a landing, the climber has one more turn to rest." */
    private static void rollerRestsOnALanding() {
        about("the roller rests on a landing");
        for (int landing : new int[] {1, 6}) {
            LiftingStairs x = stairs(10, 2);
            x.put(landing);
            x.roll(landing);
            due(1, x.climber(0, 2), "from the ground to the landing " + landing);
        }
        LiftingStairs x = moves(onSteps(10, 8, 0), "l9");
        x.roll(1);
        due(1, x.climber(0, 2), "to the landing below the top");
        LiftingStairs y = moves(onSteps(10, 8, 0), "l9,l1,l2");
        y.roll(3);
        due(0, y.climber(0, 2), "above the top, one step behind the ground");
        due(0, y.climber(0, 0), "on the ground");
        LiftingStairs z = moves(onSteps(10, 3, 0), "l3,l5");
        z.roll(1);
        due(0, z.climber(0, 2), "from a landing, past none");
        z.pass();
        z.roll(2);
        due(0, z.climber(0, 2), "past a landing");
    }

    // ---- Turns

    /** "The first climber who joins is on the move." */
    private static void firstWhoJoinsIsOnTheMove() {
        about("the first one who joins is on the move");
        LiftingStairs x = stairs(30, 0);
        due(NONE, x.turn(), "turn() ahead of the first one");
        for (int c = 0; c < 6; c++) {
            x.join();
            due(0, x.turn(), "turn() behind join() " + c);
        }
        LiftingStairs y = stairs(30, 1);
        y.undo();
        due(NONE, y.turn(), "turn() behind undo() of the first one");
        y.join();
        due(0, y.turn(), "turn() behind join() again");
    }

    /** "from the one behind the climber who was on the move, and from 0 again behind the last one" */
    private static void turnGoesRoundBehindTheLast() {
        about("the turn goes round behind the last one");
        for (int climbers = 1; climbers <= 6; climbers++) {
            LiftingStairs x = stairs(60, climbers);
            LiftingStairs y = stairs(60, climbers);
            for (int i = 1; i <= 2 * climbers + 1; i++) {
                due(i % climbers, x.pass(), "pass() " + i + " of " + climbers);
                due(i % climbers, x.turn(), "turn() behind pass() " + i + " of " + climbers);
                y.roll(i % 3 + 1);
                due(i % climbers, y.turn(), "turn() behind roll " + i + " of " + climbers);
            }
            due(0, x.total(8), "left out by passes");
            due(0, y.total(8), "left out by rolls");
        }
    }

    /** The same where the number of climbers grows while the last one is on the move. */
    private static void turnGoesToOneWhoJustJoined() {
        about("the turn goes to one who just joined");
        LiftingStairs x = stairs(30, 2);
        due(1, x.pass(), "pass() of 0");
        due(2, x.join(), "join()");
        due(1, x.turn(), "1 is still on the move");
        due(2, x.pass(), "pass() of 1");
        due(0, x.pass(), "pass() of 2, the last one");
        LiftingStairs y = stairs(30, 1);
        y.join();
        due(1, y.pass(), "pass() of 0");
        y.undo();
        y.undo();
        due(0, y.pass(), "pass() of 0, alone again");
    }

    /** "each one who has turns to rest has one less, and is left out" */
    private static void restingIsLeftOutOnce() {
        about("who rests is left out once");
        LiftingStairs x = moves(stairs(10, 3), "l4,p");
        x.roll(4);
        due(1, x.climber(1, 2), "1 has to rest");
        due(2, x.turn(), "turn()");
        due(0, x.pass(), "pass() of 2");
        due(1, x.climber(1, 2), "1 has still to rest");
        due(0, x.total(8), "nobody was left out so far");
        due(2, x.pass(), "pass() of 0");
        due(0, x.climber(1, 2), "1 has rested");
        due(1, x.total(8), "left out");
        due(0, x.pass(), "pass() of 2");
        due(1, x.pass(), "pass() of 0");
        due(0, x.climber(1, 2), "1 has not -1 to rest");
        due(1, x.total(8), "left out");
        // The first and the last one rest: both sides of the way round.
        LiftingStairs y = moves(stairs(10, 3), "l4,4,p,4");
        due(1, y.turn(), "0 is left out behind 2");
        due(0, y.climber(0, 2), "0 has rested");
        due(1, y.climber(2, 2), "2 has to rest");
        due(1, y.roll(1), "1 rolls");
        due(0, y.turn(), "2 is left out behind 1");
        due(2, y.total(8), "left out");
    }

    /** "until there is one without": all rest, and the one who was on the move is the last one. */
    private static void turnGoesRoundWhileAllRest() {
        about("the turn goes round while all rest");
        for (int climbers = 1; climbers <= 6; climbers++) {
            LiftingStairs x = stairs(10, climbers);
            x.put(5);
            for (int c = 0; c < climbers - 1; c++) {
                due(5, x.roll(5), "roll(5) of " + c);
                due(c + 1, x.turn(), "turn()");
                due(1, x.climber(c, 2), "turns to rest of " + c);
            }
            due(0, x.ifRolled(5, 4), "who would be on the move, of " + climbers);
            due(5, x.roll(5), "roll(5) of the last one");
            due(0, x.turn(), "0 is on the move, of " + climbers);
            due(climbers, x.total(8), "all were left out");
            for (int c = 0; c < climbers; c++) {
                due(0, x.climber(c, 2), "turns to rest of " + c);
            }
        }
        LiftingStairs y = moves(stairs(10, 3), "l5,p,p,5,p,5");
        due(1, y.climber(1, 2), "1 has to rest");
        due(0, y.turn(), "2 is left out behind 1");
        due(5, y.roll(5), "roll(5) of 0");
        due(2, y.turn(), "1 is left out behind 0");
        due(1, y.climber(0, 2), "0 has to rest");
        due(1, y.pass(), "0 is left out behind 2");
    }

    // ---- Progress

    /** "the tops multiplied by the number of the top step, plus the step" */
    private static void progressAtItsEnds() {
        about("progress");
        LiftingStairs x = stairs(60, 1);
        due(0, x.climber(0, 6), "at the beginning");
        LiftingStairs y = onSteps(60, 59);
        due(59, y.climber(0, 6), "below the top");
        y.roll(1);
        due(60, y.climber(0, 6), "at the top");
        y.roll(1);
        due(61, y.climber(0, 6), "behind the top");
        y.setTop(10);
        due(11, y.climber(0, 6), "with the least top");
        y.setTop(60);
        due(61, y.climber(0, 6), "with the greatest top");
        LiftingStairs z = stairs(10, 1);
        for (int tops = 1; tops <= 100; tops++) {
            moves(z, "6,6");
        }
        due(1000, z.climber(0, 6), "100 tops of 10 steps");
        z.setTop(60);
        due(6000, z.climber(0, 6), "100 tops of 60 steps");
    }

    // ---- Texts

    /** "A buffer of at most 60 characters holds moves" */
    private static void bufferOfSixtyCharacters() {
        about("a buffer of at most 60 characters");
        LiftingStairs x = fill(stairs(30, 0), "p,".repeat(29));
        due(59, x.append('l'), "character 59");
        due(60, x.append('0'), "character 60");
        due(LIMIT, x.append(','), "character 61");
        due(LIMIT, x.append('p'), "character 61 again");
        due(NONE, x.errorPosition(), "a text of 60 characters");
        due(60, x.clearText(), "clearText()");
        due(1, x.append('p'), "character 1");
    }

    /** "text = move { "," move }": one move at least, a comma between two. */
    private static void aTextHasAMove() {
        about("a text has a move");
        asked("", 0);
        asked("j", NONE);
        asked("j,j", NONE);
        asked(",", 0);
        asked(",j", 0);
        asked("j,", 2);
        asked("j,,j", 2);
        asked("jj", 1);
        asked("j;j", 1);
        asked("j.j", 1);
    }

    /** "A roll is a digit from 1 to 6"; the other moves begin with p, j, c, l. */
    private static void rollsInTexts() {
        about("moves begin with 1 to 6, p, j, c, l");
        for (char sign = 33; sign <= 126; sign++) {
            boolean alone = sign >= '1' && sign <= '6' || sign == 'p' || sign == 'j';
            int want = alone ? NONE : sign == 'c' || sign == 'l' ? 1 : 0;
            asked(Character.toString(sign), want);
            asked("6," + sign, want < 0 ? NONE : want + 2);
        }
    }

    /** "A number is 0 to 99 without leading zeros." */
    private static void numbersInTexts() {
        about("a number is 0 to 99 without leading zeros");
        for (int number = 0; number <= 99; number++) {
            asked("l" + number, NONE);
            asked("c" + number + ">0", NONE);
            asked("c0>" + number, NONE);
            asked("c" + number + ">" + number + ",l" + number + ",p", NONE);
        }
        for (String number : new String[] {"00", "01", "09", "000", "100", "101", "990", "999"}) {
            int at = number.charAt(0) == '0' ? 1 : 2;
            asked("l" + number, 1 + at);
            asked("c" + number + ">0", 1 + at);
            asked("c0>" + number, 3 + at);
        }
        asked("l-1", 1);
        asked("l+1", 1);
        asked("c>0", 1);
        asked("c0>,p", 3);
        asked("c0>-1", 3);
    }

    /**
     * "A character of the buffer is an error if no text begins with the characters ahead of it and
     * this character": each character behind each beginning.
     */
    private static void errorsByCharacter() {
        about("errors by character");
        String[][] beginnings = {
            {"", "123456pjcl"}, {"j,", "123456pjcl"},
            {"1", ","}, {"6", ","}, {"p", ","}, {"j", ","},
            {"c", "0123456789"}, {"c0", ">"}, {"c1", "0123456789>"}, {"c9", "0123456789>"},
            {"c10", ">"}, {"c99", ">"},
            {"c5>", "0123456789"}, {"c5>0", ","}, {"c5>1", "0123456789,"}, {"c5>9", "0123456789,"},
            {"c5>10", ","}, {"c55>99", ","},
            {"l", "0123456789"}, {"l0", ","}, {"l1", "0123456789,"}, {"l9", "0123456789,"},
            {"l10", ","}, {"l99", ","}
        };
        for (String[] row : beginnings) {
            for (char sign = 33; sign <= 126; sign++) {
                LiftingStairs x = fill(stairs(30, 0), row[0] + sign);
                boolean error = row[1].indexOf(sign) < 0;
                boolean told = x.errorPosition() == row[0].length();
                due(error ? "an error" : "none", told ? "an error" : "none", row[0] + " and " + sign);
                // What stands behind the first error is not looked at.
                fill(x, ",j,!");
                if (error) {
                    due(row[0].length(), x.errorPosition(), row[0] + sign + ",j,!");
                }
            }
        }
    }

    /** Whether it is a text, and whether play() says the same. */
    private static void asked(String text, int want) {
        LiftingStairs x = fill(stairs(30, 0), text);
        due(want, x.errorPosition(), "errorPosition() of '" + text + "'");
        int made = x.play();
        due(want == NONE ? "played" : "BAD_TEXT", made == BAD_TEXT ? "BAD_TEXT" : "played", "'" + text + "'");
        due(want == NONE ? 0 : text.length(), x.clearText(), "what is left of '" + text + "'");
    }

    // ---- Undo

    /** "record the state ..., if they return no error code (also if the call makes no difference)" */
    private static void recordedIfItMakesNoDifference() {
        about("recorded, also if the call makes no difference");
        LiftingStairs x = stairs(30, 0);
        due(30, x.setTop(30), "setTop(30)");
        due(0, x.undo(), "undo() of setTop(30)");
        LiftingStairs y = stairs(30, 1);
        due(0, y.pass(), "pass() alone");
        due(1, y.undo(), "undo() of pass()");
        y.save();
        due(1, y.restore(), "restore() of the current state");
        due(1, y.undo(), "undo() of restore()");
        due(0, fill(y, "l0,p").play(), "play() of no move");
        due(1, y.undo(), "undo() of play()");
        due(0, moves(y, "c1>0").roll(1), "roll(1) down to the ground again");
        due(2, y.undo(), "undo() of roll(1)");
        due(0, y.total(4), "rolls behind undo()");
    }

    /** "At most 5 states are kept; when a sixth one is recorded, the oldest one is discarded." */
    private static void atMostFiveRecorded() {
        about("at most 5 states are kept");
        for (int recorded = 0; recorded <= 12; recorded++) {
            LiftingStairs x = stairs(30, 0);
            for (int i = 1; i <= recorded; i++) {
                x.setTop(30 + i);
            }
            int kept = Math.min(5, recorded);
            for (int left = kept - 1; left >= 0; left--) {
                due(left, x.undo(), "undo() of " + recorded + " recorded");
                due(30 + recorded - kept + left, x.total(0), "the top behind undo(), " + left + " left");
            }
            due(NOT_POSSIBLE, x.undo(), "undo() of none, " + recorded + " recorded");
            due(30 + recorded - kept, x.total(0), "the top behind undo() of none");
        }
        // Undone states make room again, at either end.
        LiftingStairs x = stairs(30, 0);
        for (int i = 1; i <= 7; i++) {
            x.setTop(30 + i);
        }
        due(4, x.undo(), "undo() of the seventh");
        due(3, x.undo(), "undo() of the sixth");
        due(35, x.setTop(40), "setTop(40)");
        due(40, x.setTop(41), "setTop(41)");
        due(41, x.setTop(42), "setTop(42), the sixth one kept");
        int[] tops = {41, 40, 35, 34, 33};
        for (int i = 0; i < 5; i++) {
            due(4 - i, x.undo(), "undo()");
            due(tops[i], x.total(0), "the top behind undo()");
        }
        due(NOT_POSSIBLE, x.undo(), "undo() of none");
    }

    /** "The state is everything except the buffer, the saved state of save() and the recorded states." */
    private static void stateIsEverythingElse() {
        about("the state is everything else");
        LiftingStairs x = moves(onSteps(12, 3, 4, 0), "c9>2,l7,l4");
        String before = look(x);
        LiftingStairs y = moves(onSteps(12, 3, 4, 0), "c9>2,l7,l4");
        y.save();
        moves(y, "l11,c10>6,j");
        y.take(9);
        y.remove(4);
        due(3, y.restore(), "restore()");
        due(before, look(y), "the restored state");
        moves(x, "4");
        due(1, x.climber(0, 2), "0 rests");
        fill(x, "p!");
        x.save();
        String then = look(x);
        due(4, x.undo(), "undo()");
        due(before, look(x), "the state behind undo()");
        due(1, x.errorPosition(), "the buffer is not undone");
        due(2, x.clearText(), "the buffer is not undone");
        due(3, x.restore(), "the saved state is not undone");
        due(then, look(x), "the saved state");
        due(4, x.undo(), "the recorded states are not restored");
    }
}
