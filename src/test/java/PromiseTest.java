/** For each promise of the document: ordinary inputs, the edges, and the wrong inputs in their order. */
public final class PromiseTest extends Checks {
    public static void main(String[] args) {
        promise1NewObject();
        promise2SetTop();
        promise3Lay();
        promise4Take();
        promise5Put();
        promise6Remove();
        promise7Join();
        promise8Roll();
        promise8Lifts();
        promise8Slips();
        promise8Landings();
        promise9Pass();
        promise10Climber();
        promise11Turn();
        promise12On();
        promise13Step();
        promise14Total();
        promise15Rank();
        promise16IfRolled();
        promise17BestRoll();
        promise18QuietRolls();
        promise19RollsToTop();
        promise20Append();
        promise21ClearText();
        promise22ErrorPosition();
        promise23Play();
        promise24Undo();
        promise24WhatIsUndoable();
        promise25Save();
        promise26Restore();
        end();
    }

    private static LiftingStairs stairs(String promise, int climbers) {
        about(promise);
        return stairs(30, climbers);
    }

    private static LiftingStairs with(String promise, String text) {
        LiftingStairs x = stairs(promise, 0);
        fill(x, text).play();
        return x;
    }

    private static void promise1NewObject() {
        LiftingStairs x = stairs("1 new", 0);
        int[] totals = {30, 0, 0, 0, 0, 0, 0, 0, 0};
        for (int what = 0; what < totals.length; what++) {
            due(totals[what], x.total(what), "total(" + what + ")");
        }
        for (int s = 0; s <= 30; s++) {
            due(0, x.step(s, 0), "landing at " + s);
            due(NONE, x.step(s, 1), "carpet at " + s);
            due(0, x.step(s, 2), "lower ends at " + s);
        }
        due(NONE, x.turn(), "turn()");
        due(0, x.clearText(), "clearText()");
        due(NOT_POSSIBLE, x.undo(), "undo()");
        due(NOT_POSSIBLE, x.restore(), "restore()");
    }

    private static void promise2SetTop() {
        LiftingStairs x = stairs("2 setTop", 0);
        due(30, x.setTop(10), "setTop(10)");
        due(10, x.setTop(60), "setTop(60)");
        due(60, x.setTop(60), "setTop(60) again");
        due(BAD_VALUE, x.setTop(9), "setTop(9)");
        due(BAD_VALUE, x.setTop(61), "setTop(61)");
        for (int far : FAR_OUT) {
            due(BAD_VALUE, x.setTop(far), "setTop(" + far + ")");
        }
        due(60, x.total(0), "total(0)");

        x.put(20);
        due(NOT_POSSIBLE, x.setTop(20), "setTop(20) with a landing at 20");
        due(BAD_VALUE, x.setTop(9), "setTop(9) with a landing at 20");
        due(60, x.setTop(21), "setTop(21)");
        x.remove(20);
        x.setTop(40);
        x.lay(25, 24);
        due(NOT_POSSIBLE, x.setTop(25), "setTop(25) with a carpet at 25");
        due(NOT_POSSIBLE, x.setTop(10), "setTop(10) with a carpet at 25");
        due(40, x.setTop(26), "setTop(26)");
        x.take(25);

        x.join();
        x.roll(6);
        x.roll(6);
        due(NOT_POSSIBLE, x.setTop(12), "setTop(12) with a climber on 12");
        due(26, x.setTop(13), "setTop(13)");
        due(13, x.total(0), "total(0)");
    }

    private static void promise3Lay() {
        LiftingStairs x = stairs("3 lay", 0);
        for (int far : FAR_OUT) {
            due(NO_SUCH, x.lay(far, 0), "lay(" + far + ", 0)");
            due(BAD_VALUE, x.lay(5, far), "lay(5, " + far + ")");
        }
        due(NO_SUCH, x.lay(0, -1), "lay(0, -1)");
        due(NO_SUCH, x.lay(30, 40), "lay(30, 40)");
        due(NO_SUCH, x.lay(-1, -2), "lay(-1, -2)");
        due(BAD_VALUE, x.lay(5, 5), "lay(5, 5)");
        due(BAD_VALUE, x.lay(5, -1), "lay(5, -1)");
        due(1, x.lay(29, 28), "lay(29, 28)");
        due(2, x.lay(1, 0), "lay(1, 0)");
        due(BAD_VALUE, x.lay(1, 1), "lay(1, 1) on a carpet");
        due(NOT_POSSIBLE, x.lay(29, 3), "a second upper end");
        due(NOT_POSSIBLE, x.lay(28, 3), "upper end at a lower end");
        due(NOT_POSSIBLE, x.lay(3, 1), "lower end at an upper end");
        x.put(7);
        due(NOT_POSSIBLE, x.lay(7, 3), "upper end at a landing");
        due(3, x.lay(8, 7), "lower end at a landing");
        due(4, x.lay(9, 7), "a second lower end at 7");

        x.join();
        x.roll(5);
        due(NOT_POSSIBLE, x.lay(5, 3), "upper end at a climber");
        due(5, x.lay(6, 5), "lower end at a climber");
        due(6, x.lay(4, 3), "the sixth carpet");
        due(LIMIT, x.lay(20, 3), "a seventh carpet");
        due(NOT_POSSIBLE, x.lay(29, 3), "NOT_POSSIBLE ahead of LIMIT");
        due(NOT_POSSIBLE, x.lay(7, 3), "NOT_POSSIBLE ahead of LIMIT, landing");
        due(NOT_POSSIBLE, x.lay(5, 3), "NOT_POSSIBLE ahead of LIMIT, climber");
        due(BAD_VALUE, x.lay(20, 20), "BAD_VALUE ahead of LIMIT");
        due(NO_SUCH, x.lay(30, 3), "NO_SUCH ahead of LIMIT");
        due(6, x.total(2), "total(2)");
        due(3, x.step(4, 1), "step(4, 1)");
    }

    private static void promise4Take() {
        LiftingStairs x = stairs("4 take", 0);
        due(NO_SUCH, x.take(5), "take(5) without a carpet");
        x.lay(5, 0);
        x.lay(9, 4);
        for (int far : FAR_OUT) {
            due(NO_SUCH, x.take(far), "take(" + far + ")");
        }
        due(NO_SUCH, x.take(4), "take(4), a lower end");
        due(NO_SUCH, x.take(30), "take(30)");
        due(NO_SUCH, x.take(60), "take(60)");
        due(0, x.take(5), "take(5)");
        due(NO_SUCH, x.take(5), "take(5) again");
        due(1, x.total(2), "total(2)");
        due(4, x.take(9), "take(9)");
        due(NONE, x.step(9, 1), "step(9, 1)");
        due(1, x.lay(9, 5), "lay(9, 5)");
    }

    private static void promise5Put() {
        LiftingStairs x = stairs("5 put", 1);
        for (int far : FAR_OUT) {
            due(NO_SUCH, x.put(far), "put(" + far + ")");
        }
        due(NO_SUCH, x.put(0), "put(0)");
        due(NO_SUCH, x.put(30), "put(30)");
        due(1, x.put(1), "put(1)");
        due(2, x.put(29), "put(29)");
        due(NOT_POSSIBLE, x.put(29), "put(29) again");
        x.lay(9, 5);
        due(NOT_POSSIBLE, x.put(9), "put(9) on a carpet's upper end");
        due(3, x.put(5), "put(5) on a carpet's lower end");
        x.roll(4);
        due(4, x.put(4), "put(4) under a climber");
        due(0, x.climber(0, 2), "turns to rest then");
        due(4, x.total(3), "total(3)");
    }

    private static void promise6Remove() {
        LiftingStairs x = stairs("6 remove", 3);
        due(NO_SUCH, x.remove(4), "remove(4) without a landing");
        x.put(4);
        x.put(5);
        for (int far : FAR_OUT) {
            due(NO_SUCH, x.remove(far), "remove(" + far + ")");
        }
        due(NO_SUCH, x.remove(0), "remove(0)");
        due(NO_SUCH, x.remove(30), "remove(30)");
        x.roll(4);
        x.roll(1);
        x.roll(4);
        due(2, x.remove(4), "remove(4) with climbers 0 and 2");
        due(NO_SUCH, x.remove(4), "remove(4) again");
        due(0, x.remove(5), "remove(5)");
        due(0, x.total(3), "total(3)");
        due(1, x.climber(2, 2), "the turns to rest remain");
    }

    private static void promise7Join() {
        LiftingStairs x = stairs("7 join", 0);
        for (int c = 0; c < 6; c++) {
            due(c, x.join(), "join() " + c);
            due(0, x.turn(), "turn()");
            due(c + 1, x.total(1), "total(1)");
            for (int part = 0; part < 7; part++) {
                due(0, x.climber(c, part), "climber(" + c + ", " + part + ")");
            }
        }
        due(LIMIT, x.join(), "a seventh join()");
        due(6, x.total(1), "total(1)");
    }

    private static void promise8Roll() {
        LiftingStairs x = stairs("8 roll", 0);
        due(BAD_VALUE, x.roll(0), "roll(0) without climbers");
        due(BAD_VALUE, x.roll(7), "roll(7) without climbers");
        due(NOT_POSSIBLE, x.roll(6), "roll(6) without climbers");
        x.join();
        for (int far : FAR_OUT) {
            due(BAD_VALUE, x.roll(far), "roll(" + far + ")");
        }
        due(BAD_VALUE, x.roll(0), "roll(0)");
        due(BAD_VALUE, x.roll(7), "roll(7)");
        due(0, x.total(4), "total(4)");
        for (int n = 1; n <= 6; n++) {
            due(n * (n + 1) / 2, x.roll(n), "roll(" + n + ")");
        }
        due(6, x.total(4), "total(4)");
        due(27, x.roll(6), "roll(6) to 27");
        due(0, x.roll(3), "roll(3) onto the top");
        due(1, x.climber(0, 1), "tops");
        due(30, x.climber(0, 6), "progress");
        for (int i = 0; i < 4; i++) {
            x.roll(6);
        }
        x.roll(5);
        due(0, x.roll(6), "roll(6) from 29 above the top");
        due(2, x.climber(0, 1), "tops");
    }

    private static void promise8Lifts() {
        LiftingStairs x = with("8 lifts", "j,j,j,j,j,j");
        x.roll(1);
        due(3, x.roll(3), "roll(3) over 0");
        due(2, x.climber(0, 0), "0 is lifted to 2");
        due(3, x.roll(3), "roll(3) over 0 again");
        due(3, x.climber(0, 0), "0 is lifted to 3");
        due(3, x.climber(1, 0), "1 on the step s + n is not lifted");
        due(4, x.roll(4), "roll(4) over 0, 1 and 2");
        due(4, x.climber(0, 0), "0 on 4");
        due(4, x.climber(1, 0), "1 on 4");
        due(4, x.climber(2, 0), "2 on 4");
        due(5, x.roll(5), "roll(5) over four");
        due(3 + 4 + 1 + 1, x.total(5), "lifts");
        due(4, x.climber(4, 4), "lifts made by 4");
        due(0, x.climber(4, 3), "4 is not lifted");
        due(6, x.roll(6), "roll(6) over five");
        due(6, x.climber(0, 0), "0 on 6");
        due(6, x.climber(4, 0), "4 on 6");
        due(0x3f, x.on(6), "all on 6");
        due(12, x.roll(6), "roll(6) of 0, nobody between");
        due(14, x.total(5), "those on the same step are not lifted");

        LiftingStairs y = with("8 lifts, to the top", "j,j,6,p,6,p,6,p,6,p,5");
        due(29, y.climber(0, 0), "0 on 29");
        y.pass();
        y.pass();
        for (int i = 0; i < 4; i++) {
            y.roll(6);
            y.pass();
        }
        y.roll(3);
        y.pass();
        due(27, y.climber(1, 0), "1 on 27");
        due(0, y.roll(3), "roll(3) of 1 over 0 onto the top");
        due(1, y.climber(0, 1), "tops of 0, lifted to the top");
        due(1, y.climber(1, 1), "tops of 1");
        due(0, y.climber(0, 0), "0 on the ground");
        due(1, y.climber(0, 3), "0 was lifted once");
        due(3, y.on(0), "both on the ground");
        due(2, y.total(7), "total(7)");
    }

    private static void promise8Slips() {
        LiftingStairs x = with("8 slips", "j,j,c5>2,l2,3,1");
        due(3, x.climber(0, 0), "0 on 3");
        due(1, x.climber(1, 0), "1 on 1");
        due(2, x.ifRolled(2, 0), "0 slips from 5 to 2");
        due(2, x.roll(2), "roll(2) of 0");
        due(1, x.climber(0, 5), "slips of 0");
        due(0, x.climber(0, 2), "nobody rests at a carpet's lower end");
        due(1, x.total(6), "total(6)");
        due(1, x.turn(), "turn()");
        due(4, x.roll(3), "1 rolls over 0, who is on the landing 2");
        due(0, x.climber(0, 3), "0 on a landing is not lifted");
        x.pass();
        due(4, x.climber(1, 0), "1 on 4");
        x.pass();
        due(8, x.roll(6), "0 rolls over 1");
        due(2, x.climber(1, 0), "1 is lifted to 5 and slips to 2");
        due(1, x.climber(1, 5), "slips of 1");
        due(1, x.climber(1, 3), "1 was lifted");
        due(1, x.climber(0, 4), "0 lifted one");
        due(0, x.climber(1, 2), "1 does not rest");
        due(2, x.total(6), "total(6)");

        LiftingStairs y = with("8 slips, to the ground", "j,c6>0");
        due(0, y.roll(6), "roll(6) to the carpet at 6");
        due(1, y.climber(0, 5), "slips");
        due(0, y.climber(0, 1), "no top by slipping to the ground");
    }

    private static void promise8Landings() {
        LiftingStairs x = with("8 landings", "j,j,j,l5,l3,2,5");
        due(1, x.climber(1, 2), "1 has to rest");
        due(3, x.climber(0, 0), "0 is lifted to the landing 3");
        due(0, x.climber(0, 2), "0 does not have to rest");
        due(0, x.total(8), "nobody was left out so far");
        due(2, x.turn(), "turn()");
        due(6, x.roll(6), "2 rolls over both landings");
        due(0, x.climber(2, 4), "nobody on a landing is lifted");
        due(0, x.turn(), "turn()");
        x.roll(1);
        due(2, x.turn(), "1 is left out");
        due(0, x.climber(1, 2), "1 has rested");
        due(1, x.total(8), "total(8)");

        LiftingStairs y = with("8 landings, alone", "j,l4");
        due(4, y.roll(4), "roll(4)");
        due(0, y.turn(), "turn()");
        due(0, y.climber(0, 2), "has rested at once");
        due(1, y.total(8), "total(8)");

        LiftingStairs z = with("8 landings, all", "j,j,l4,4");
        due(1, z.turn(), "turn()");
        z.roll(4);
        due(0, z.turn(), "0 and 1 are left out, and 0 is without then");
        due(0, z.climber(0, 2), "0 has rested");
        due(0, z.climber(1, 2), "1 has rested");
        due(2, z.total(8), "total(8)");
    }

    private static void promise9Pass() {
        LiftingStairs x = stairs("9 pass", 0);
        due(NOT_POSSIBLE, x.pass(), "pass() without climbers");
        x.join();
        due(0, x.pass(), "pass() alone");
        x.join();
        x.join();
        due(1, x.pass(), "pass() of 0");
        due(2, x.pass(), "pass() of 1");
        due(0, x.pass(), "pass() of 2");
        due(0, x.total(4), "a pass is no roll");
        x.put(3);
        x.pass();
        x.roll(3);
        due(0, x.pass(), "pass() of 2");
        due(2, x.pass(), "pass() of 0, 1 rests");
        due(0, x.climber(1, 2), "1 has rested");
        due(1, x.total(8), "total(8)");
        due(0, x.pass(), "pass() of 2");
        due(1, x.pass(), "pass() of 0, 1 rests no more");
        x.setTop(20);
        x.pass();
        x.undo();
        due(20, x.total(0), "undo() of pass() is not that of setTop()");
        due(1, x.turn(), "turn() behind undo()");
    }

    private static void promise10Climber() {
        LiftingStairs x = stairs("10 climber", 0);
        due(NO_SUCH, x.climber(0, 0), "climber(0, 0) without climbers");
        due(NO_SUCH, x.climber(0, 7), "NO_SUCH ahead of BAD_VALUE");
        x.join();
        x.join();
        for (int far : FAR_OUT) {
            due(NO_SUCH, x.climber(far, 0), "climber(" + far + ", 0)");
            due(NO_SUCH, x.climber(far, far), "climber(" + far + ", " + far + ")");
            due(BAD_VALUE, x.climber(1, far), "climber(1, " + far + ")");
        }
        due(NO_SUCH, x.climber(-1, 0), "climber(-1, 0)");
        due(NO_SUCH, x.climber(2, 0), "climber(2, 0)");
        due(BAD_VALUE, x.climber(0, -1), "climber(0, -1)");
        due(BAD_VALUE, x.climber(0, 7), "climber(0, 7)");

        // 0: 4 (rests), 1: 3, 0 left out, 1: 2 over 0 on the landing, 0: 4 over 1, slipped.
        fill(x, "l4,c6>1,4,3,2").play();
        int[] first = {4, 0, 0, 0, 0, 0, 4};
        int[] second = {5, 0, 0, 0, 0, 0, 5};
        parts(x, 0, first);
        parts(x, 1, second);
        x.roll(4);
        parts(x, 0, new int[] {8, 0, 0, 0, 1, 0, 8});
        parts(x, 1, new int[] {1, 0, 0, 1, 0, 1, 1});
        x.roll(3);
        parts(x, 1, new int[] {4, 0, 1, 1, 0, 1, 4});
        x.setTop(10);
        x.roll(6);
        parts(x, 0, new int[] {0, 1, 0, 0, 1, 0, 10});
        x.roll(5);
        x.setTop(50);
        parts(x, 0, new int[] {5, 1, 0, 0, 1, 0, 55});
    }

    private static void parts(LiftingStairs x, int climber, int[] want) {
        for (int part = 0; part < want.length; part++) {
            due(want[part], x.climber(climber, part), "climber(" + climber + ", " + part + ")");
        }
    }

    private static void promise11Turn() {
        LiftingStairs x = stairs("11 turn", 0);
        due(NONE, x.turn(), "turn() without climbers");
        x.join();
        x.join();
        due(0, x.turn(), "turn()");
        x.roll(1);
        due(1, x.turn(), "turn() behind a roll");
        x.join();
        due(1, x.turn(), "turn() behind a join");
        x.pass();
        due(2, x.turn(), "turn() behind a pass");
        x.pass();
        due(0, x.turn(), "turn() from 0 again");
        fill(x, "j,j,j,l2").play();
        x.pass();
        x.roll(2);
        x.roll(2);
        due(3, x.turn(), "turn()");
        x.roll(2);
        x.roll(2);
        x.roll(6);
        x.roll(6);
        due(5, x.turn(), "1 to 4 rest");
        due(4, x.total(8), "total(8)");
    }

    private static void promise12On() {
        LiftingStairs x = stairs("12 on", 6);
        for (int far : FAR_OUT) {
            due(NO_SUCH, x.on(far), "on(" + far + ")");
        }
        due(NO_SUCH, x.on(-1), "on(-1)");
        due(NO_SUCH, x.on(30), "on(30), the top");
        due(0, x.on(29), "on(29)");
        due(63, x.on(0), "on(0)");
        x.roll(5);
        x.pass();
        x.roll(5);
        due(63 - 5, x.on(0), "on(0)");
        due(5, x.on(5), "on(5)");
        due(0, x.on(4), "on(4)");
        LiftingStairs y = stairs("12 on, few climbers", 2);
        due(3, y.on(0), "on(0)");
        y.setTop(60);
        due(0, y.on(59), "on(59)");
        due(NO_SUCH, y.on(60), "on(60)");
    }

    private static void promise13Step() {
        LiftingStairs x = stairs("13 step", 0);
        x.put(3);
        x.lay(9, 3);
        x.lay(8, 3);
        x.lay(29, 0);
        for (int far : FAR_OUT) {
            due(NO_SUCH, x.step(far, 0), "step(" + far + ", 0)");
            due(BAD_VALUE, x.step(3, far), "step(3, " + far + ")");
        }
        due(NO_SUCH, x.step(-1, 3), "NO_SUCH ahead of BAD_VALUE");
        due(NO_SUCH, x.step(31, -1), "NO_SUCH ahead of BAD_VALUE at 31");
        due(BAD_VALUE, x.step(30, 3), "step(30, 3)");
        due(BAD_VALUE, x.step(0, -1), "step(0, -1)");
        due(1, x.step(3, 0), "step(3, 0)");
        due(0, x.step(9, 0), "step(9, 0)");
        due(3, x.step(9, 1), "step(9, 1)");
        due(0, x.step(29, 1), "step(29, 1)");
        due(NONE, x.step(3, 1), "step(3, 1)");
        due(2, x.step(3, 2), "step(3, 2)");
        due(1, x.step(0, 2), "step(0, 2)");
        due(0, x.step(9, 2), "step(9, 2)");
        due(0, x.step(30, 0), "step(30, 0)");
        due(NONE, x.step(30, 1), "step(30, 1)");
        due(0, x.step(30, 2), "step(30, 2)");
        x.setTop(60);
        due(0, x.step(60, 0), "step(60, 0)");
        due(NONE, x.step(60, 1), "step(60, 1)");
        due(NO_SUCH, x.step(61, 0), "step(61, 0)");
    }

    private static void promise14Total() {
        LiftingStairs x = stairs("14 total", 0);
        for (int far : FAR_OUT) {
            due(BAD_VALUE, x.total(far), "total(" + far + ")");
        }
        due(BAD_VALUE, x.total(-1), "total(-1)");
        due(BAD_VALUE, x.total(9), "total(9)");
        fill(x, "j,j,l4,l7,c9>2,c5>1,c8>1,4,3,2,3").play();
        // 0 rests on 4; 1 on 3, 0 is left out; 1 to 5 slips to 1; 0 to 7 rests.
        x.setTop(10);
        int[] want = {10, 2, 3, 2, 4, 0, 1, 0, 1};
        totals(x, want);
        // 1 to 7 rests, both are left out once; 0 from 7 to the top.
        x.roll(6);
        due(0, x.turn(), "turn()");
        totals(x, new int[] {10, 2, 3, 2, 5, 0, 1, 0, 3});
        x.roll(6);
        totals(x, new int[] {10, 2, 3, 2, 6, 0, 1, 1, 3});
        // 0 to 3, 1 from 7 to 8, 0 to the carpet at 9 over 1, who slips there too.
        x.remove(7);
        x.take(8);
        fill(x, "p,3,1,6").play();
        totals(x, new int[] {10, 2, 2, 1, 9, 1, 3, 1, 3});
    }

    private static void totals(LiftingStairs x, int[] want) {
        for (int what = 0; what < want.length; what++) {
            due(want[what], x.total(what), "total(" + what + ")");
        }
    }

    private static void promise15Rank() {
        LiftingStairs x = stairs("15 rank", 0);
        due(BAD_VALUE, x.rank(-1), "rank(-1) without climbers");
        due(BAD_VALUE, x.rank(Integer.MIN_VALUE), "rank(least)");
        due(NONE, x.rank(0), "rank(0) without climbers");
        due(NONE, x.rank(Integer.MAX_VALUE), "rank(greatest)");
        fill(x, "j,j,j,j,p,5,2,5").play();
        int[] order = {1, 3, 2, 0};
        for (int place = 0; place < 4; place++) {
            due(order[place], x.rank(place), "rank(" + place + ")");
        }
        due(NONE, x.rank(4), "rank(4)");
        x.setTop(10);
        fill(x, "6,p,p,p,6").play();
        due(0, x.rank(0), "0 with a top");
        LiftingStairs y = stairs("15 rank, all alike", 6);
        for (int place = 0; place < 6; place++) {
            due(place, y.rank(place), "rank(" + place + ")");
        }
    }

    private static void promise16IfRolled() {
        LiftingStairs x = stairs("16 ifRolled", 0);
        due(BAD_VALUE, x.ifRolled(0, 0), "ifRolled(0, 0) without climbers");
        due(BAD_VALUE, x.ifRolled(1, 5), "ifRolled(1, 5) without climbers");
        due(NOT_POSSIBLE, x.ifRolled(1, 0), "ifRolled(1, 0) without climbers");
        fill(x, "j,j,j,l6,c5>1,4,2,p").play();
        for (int far : FAR_OUT) {
            due(BAD_VALUE, x.ifRolled(far, 0), "ifRolled(" + far + ", 0)");
            due(BAD_VALUE, x.ifRolled(1, far), "ifRolled(1, " + far + ")");
        }
        due(BAD_VALUE, x.ifRolled(7, 0), "ifRolled(7, 0)");
        due(BAD_VALUE, x.ifRolled(0, 0), "ifRolled(0, 0)");
        due(BAD_VALUE, x.ifRolled(1, -1), "ifRolled(1, -1)");
        due(BAD_VALUE, x.ifRolled(1, 5), "ifRolled(1, 5)");
        String before = look(x);
        // 0 on 4, 1 on 2, 2 on the ground; 0 is on the move.
        rolled(x, 1, new int[] {1, 0, 0, 1, 1});
        rolled(x, 2, new int[] {6, 0, 0, 0, 1});
        same(before, x, "a prediction changes nothing");
        x.pass();
        // 1 from 2: over 0 on 4, who slips.
        rolled(x, 2, new int[] {4, 0, 0, 0, 2});
        rolled(x, 3, new int[] {1, 1, 0, 2, 2});
        rolled(x, 4, new int[] {6, 1, 0, 1, 2});
        due(0, x.total(5), "total(5) is as before");
        due(1, x.turn(), "turn() is as before");

        LiftingStairs y = with("16 ifRolled, tops", "j,j,6,3");
        y.setTop(10);
        fill(y, "3,5").play();
        // 0 on 9, 1 on 8.
        due(8, y.climber(1, 0), "1 on 8");
        rolled(y, 1, new int[] {0, 0, 1, 0, 1});
        y.pass();
        rolled(y, 1, new int[] {9, 0, 0, 0, 0});
        rolled(y, 2, new int[] {0, 1, 2, 0, 0});
        due(0, y.total(7), "total(7)");
        // Only what the roll itself would bring is told, not what there was before.
        fill(y, "2,c5>2,5").play();
        due(2, y.total(7), "total(7)");
        due(1, y.total(5), "total(5)");
        due(1, y.total(6), "total(6)");
        rolled(y, 1, new int[] {1, 0, 0, 0, 0});
        rolled(y, 3, new int[] {3, 1, 0, 0, 0});

        LiftingStairs z = with("16 ifRolled, rest", "j,l3,p");
        rolled(z, 3, new int[] {3, 0, 0, 0, 0});
        due(0, z.total(8), "total(8)");
        z.join();
        z.roll(3);
        due(1, z.turn(), "turn()");
        due(1, z.ifRolled(1, 4), "0 would be left out");
        due(0, z.ifRolled(3, 4), "both would be left out");
    }

    private static void rolled(LiftingStairs x, int number, int[] want) {
        for (int part = 0; part < want.length; part++) {
            due(want[part], x.ifRolled(number, part), "ifRolled(" + number + ", " + part + ")");
        }
    }

    private static void promise17BestRoll() {
        LiftingStairs x = stairs("17 bestRoll", 0);
        due(NONE, x.bestRoll(), "bestRoll() without climbers");
        x.join();
        String before = look(x);
        due(6, x.bestRoll(), "bestRoll() alone");
        same(before, x, "a prediction changes nothing");
        x.lay(6, 0);
        due(5, x.bestRoll(), "bestRoll() with a carpet at 6");
        x.lay(5, 4);
        due(4, x.bestRoll(), "of 4 and 5 the lowest");

        // 0 to 4 on step 1: a roll of 2 gains 2 - 5, ..., 6 gains 6 - 5, as 1 does.
        LiftingStairs y = with("17 bestRoll, others", "j,j,j,j,j,j,1,1,1,1,1");
        due(5, y.turn(), "turn()");
        due(1, y.bestRoll(), "of 1 and 6 the lowest");
        LiftingStairs z = with("17 bestRoll, fewer others", "j,j,j,j,j,1,1,1,1");
        due(6, z.bestRoll(), "6 - 4 is more than 1");
        LiftingStairs s = with("17 bestRoll, others slip", "j,j,2,p");
        s.lay(3, 0);
        s.pass();
        s.lay(4, 0);
        s.lay(5, 0);
        s.lay(6, 0);
        // 1 lets 0 slip from 2 to the ground and slips too: 0 - (-2) is 2, as is a roll of 2.
        due(2, s.bestRoll(), "2 is as good as 4, 5 and 6");
        s.setTop(60);
        due(2, s.bestRoll(), "2 is as good with another top");

        LiftingStairs t = with("17 bestRoll, top", "j,j,6,p,3");
        t.setTop(10);
        due(1, t.turn(), "turn()");
        t.pass();
        due(1, t.bestRoll(), "from 9 every roll brings the ground and a top; the lowest");
        t.pass();
        fill(t, "6,p,2").play();
        due(0, t.turn(), "turn()");
        t.pass();
        // 1 on 8, 0 on 9: a roll of 1 gains 1, one of 2 gains 2 and lifts 0 to the top, by 1.
        due(1, t.bestRoll(), "2 - 1 is not more than 1");
    }

    private static void promise18QuietRolls() {
        LiftingStairs x = stairs("18 quietRolls", 0);
        due(NONE, x.quietRolls(), "quietRolls() without climbers");
        x.join();
        due(126, x.quietRolls(), "quietRolls() alone");
        fill(x, "j,j,3,1").play();
        String before = look(x);
        due(2, x.quietRolls(), "0 on 3, 1 on 1");
        same(before, x, "a prediction changes nothing");
        x.put(1);
        due(14, x.quietRolls(), "1 on a landing");
        x.put(3);
        due(126, x.quietRolls(), "both on landings");
        x.pass();
        due(126, x.quietRolls(), "0 on 3 in front");
        x.pass();
        x.remove(3);
        due(2 + 4, x.quietRolls(), "1 on 1 has 0 on 3 ahead");
        LiftingStairs y = with("18 quietRolls, six ahead", "j,j,6");
        due(126, y.quietRolls(), "0 on 6 is not passed by a 6");
        y.roll(1);
        y.pass();
        due(62, y.quietRolls(), "0 on 6 is passed by a 6 from 1");
        LiftingStairs z = with("18 quietRolls, six climbers", "j,j,j,j,j,j,2,2,2,2,2");
        due(6, z.quietRolls(), "five on 2");
        z.roll(5);
        due(6, z.quietRolls(), "0 on 3 has 5 on 5 ahead");
    }

    private static void promise19RollsToTop() {
        LiftingStairs x = stairs("19 rollsToTop", 0);
        due(NO_SUCH, x.rollsToTop(0), "rollsToTop(0) without climbers");
        x.join();
        x.join();
        for (int far : FAR_OUT) {
            due(NO_SUCH, x.rollsToTop(far), "rollsToTop(" + far + ")");
        }
        due(NO_SUCH, x.rollsToTop(-1), "rollsToTop(-1)");
        due(NO_SUCH, x.rollsToTop(2), "rollsToTop(2)");
        due(5, x.rollsToTop(0), "rollsToTop(0), 30 steps");
        x.setTop(31);
        due(6, x.rollsToTop(1), "rollsToTop(1), 31 steps");
        x.setTop(60);
        due(10, x.rollsToTop(1), "rollsToTop(1), 60 steps");
        x.roll(1);
        due(10, x.rollsToTop(0), "from 1 of 60");
        x.setTop(10);
        due(2, x.rollsToTop(0), "from 1 of 10");
        x.roll(3);
        due(2, x.rollsToTop(1), "from 3 of 10");
        x.roll(3);
        due(1, x.rollsToTop(1), "from 4 of 10, where 1 was lifted");
        due(1, x.rollsToTop(0), "from 5 of 10");

        LiftingStairs y = stairs("19 rollsToTop, carpets", 1);
        y.setTop(13);
        due(3, y.rollsToTop(0), "13 steps");
        y.lay(6, 0);
        due(3, y.rollsToTop(0), "5, 11, 13");
        y.lay(5, 0);
        due(3, y.rollsToTop(0), "4, 10, 13");
        y.lay(4, 0);
        y.lay(9, 1);
        y.lay(8, 1);
        y.lay(7, 1);
        due(NONE, y.rollsToTop(0), "carpets at 4 to 9");
        y.take(4);
        due(3, y.rollsToTop(0), "4, 10, 13 again");
        y.put(10);
        due(3, y.rollsToTop(0), "a rest does not matter");
        LiftingStairs w = stairs("19 rollsToTop, a roll of 1", 1);
        w.setTop(13);
        for (int upper = 2; upper <= 6; upper++) {
            w.lay(upper, 0);
        }
        due(3, w.rollsToTop(0), "1, 7, 13");
        LiftingStairs z = stairs("19 rollsToTop, at the end", 1);
        z.setTop(10);
        for (int upper = 4; upper <= 9; upper++) {
            z.lay(upper, 0);
        }
        due(NONE, z.rollsToTop(0), "six carpets below the top");
        z.take(9);
        due(3, z.rollsToTop(0), "3, 9, 10");
    }

    private static void promise20Append() {
        LiftingStairs x = stairs("20 append", 0);
        due(BAD_VALUE, x.append(32), "append(32)");
        due(BAD_VALUE, x.append(127), "append(127)");
        for (int far : FAR_OUT) {
            due(BAD_VALUE, x.append(far), "append(" + far + ")");
        }
        due(BAD_VALUE, x.append(65536 + 'p'), "append(65536 + 'p')");
        due(1, x.append(33), "append(33)");
        due(2, x.append(126), "append(126)");
        for (int i = 3; i <= 60; i++) {
            due(i, x.append('p'), "append " + i);
        }
        due(LIMIT, x.append('p'), "append 61");
        due(BAD_VALUE, x.append(127), "BAD_VALUE ahead of LIMIT");
        due(BAD_VALUE, x.append(32), "BAD_VALUE ahead of LIMIT");
        due(60, x.clearText(), "clearText()");
        due(NOT_POSSIBLE, x.undo(), "append is not undoable");
    }

    private static void promise21ClearText() {
        LiftingStairs x = stairs("21 clearText", 0);
        due(0, x.clearText(), "clearText() of nothing");
        fill(x, "abc");
        due(3, x.clearText(), "clearText()");
        due(0, x.clearText(), "clearText() again");
        due(1, x.append('p'), "append");
        due(NONE, x.errorPosition(), "errorPosition()");
        x.clearText();
        due(NOT_POSSIBLE, x.undo(), "clearText is not undoable");
    }

    private static void promise22ErrorPosition() {
        String[] texts = {
            "1", "6", "p", "j", "c0>0", "c9>9", "c99>99", "c10>0", "c0>10", "l0", "l9", "l10", "l99",
            "1,2,3,p,j,c20>3,l4", "l4,l5,c4>12,6"
        };
        for (String text : texts) {
            error(text, NONE);
        }
        String[] starts = {"", "c", "c1", "c12", "c0", "c1>", "c12>", "l", "1,", "p,", "c1>2,", "l0,", "l12,c"};
        for (String start : starts) {
            error(start, start.length());
        }
        String[] faults = {
            // The last character is the error.
            "0", "7", "9", ",", ">", "x", "P", "J", "C", "L", "!", "~", "11", "1p", "pp", "p1", "j1", "1>",
            "1,,", "1,0", "1,7", "c,", "c>", "cp", "c1,", "c00", "c01", "c123", "c1p", "c1>>", "c1>,", "c1>p",
            "c1>00", "c1>01", "c1>123", "c1>1>", "l,", "l>", "lp", "l00", "l01", "l123",
            "l1>", "l12>", "l1p", "l0>", "l10,x"
        };
        for (String fault : faults) {
            error(fault, fault.length() - 1);
            error(fault + "1", fault.length() - 1);
            error("j,c12>3," + fault, fault.length() + 7);
        }
        error("1,".repeat(30), 60);
        error("11" + "1,".repeat(29), 1);
        error("1,".repeat(28) + "l9,1", NONE);
        error("1,".repeat(29) + "pc", 59);
        error("1,".repeat(29) + ",c", 58);
    }

    private static void error(String text, int want) {
        LiftingStairs x = fill(stairs("22 errorPosition", 0), text);
        due(want, x.errorPosition(), "errorPosition() of " + text);
        due(want, x.errorPosition(), "errorPosition() again, of " + text);
        due(want == NONE ? 0 : BAD_TEXT, Math.min(0, x.play()), "play() of " + text);
        due(want == NONE ? 0 : text.length(), x.clearText(), "clearText() behind play() of " + text);
    }

    private static void promise23Play() {
        LiftingStairs x = stairs("23 play", 0);
        due(BAD_TEXT, x.play(), "play() of nothing");
        due(BAD_TEXT, fill(x, "j,").play(), "play() of j,");
        due(2, x.clearText(), "the buffer stays");
        due(0, x.total(1), "no move is made");
        due(NOT_POSSIBLE, x.undo(), "an error records nothing");

        due(7, fill(x, "j,j,l12,c20>3,5,p,6").play(), "play() of seven moves");
        due(0, x.clearText(), "the buffer is empty");
        due(2, x.total(1), "climbers");
        due(1, x.step(12, 0), "landing at 12");
        due(3, x.step(20, 1), "carpet at 20");
        due(11, x.climber(0, 0), "0 on 11");
        due(0, x.climber(1, 0), "1 on the ground");
        due(1, x.turn(), "turn()");
        due(0, x.undo(), "one state was recorded");
        due(0, x.total(1), "climbers ahead of play()");

        due(0, fill(x, "p,j").play(), "the first move is not possible");
        due(0, x.total(1), "moves behind it are not made");
        due(0, x.clearText(), "the buffer is empty, also if no move was made");
        due(0, x.undo(), "one state was recorded, also if no move was made");
        due(0, fill(x, "6").play(), "a roll without climbers");
        due(0, fill(x, "l0").play(), "l0");
        due(0, fill(x, "l30").play(), "l30");
        due(0, fill(x, "c0>0").play(), "c0>0");
        due(0, fill(x, "c30>3").play(), "c30>3");
        due(0, fill(x, "c3>3").play(), "c3>3");
        due(1, fill(x, "c29>28").play(), "c29>28");
        due(28, x.step(29, 1), "carpet at 29");
        due(1, fill(x, "l28,l28,l27").play(), "l28 twice");
        due(0, x.step(27, 0), "no landing at 27");
        due(6, fill(x, "j,j,j,j,j,j,j,1").play(), "seven climbers");
        due(0, x.total(4), "no roll");
        due(5, fill(x, "c1>0,c2>0,c3>0,c4>0,c5>0,c6>0,p").play(), "the seventh carpet");
        due(0, x.turn(), "no pass");
        due(4, x.undo(), "undo()");
        due(1, x.total(2), "carpets");
        due(30, fill(x, "p,".repeat(29) + "p").play(), "30 moves");
        due(0, x.turn(), "turn()");
    }

    private static void promise24Undo() {
        LiftingStairs x = stairs("24 undo", 0);
        due(NOT_POSSIBLE, x.undo(), "undo() of nothing");
        String[] seen = new String[6];
        for (int i = 0; i < 6; i++) {
            seen[i] = look(x);
            x.setTop(11 + i);
        }
        for (int left = 4; left >= 0; left--) {
            due(left, x.undo(), "undo()");
            same(seen[1 + left], x, "the state ahead of call " + (1 + left));
        }
        due(NOT_POSSIBLE, x.undo(), "undo() of the sixth");
        same(seen[1], x, "the state is as before");
        x.join();
        x.roll(5);
        due(1, x.undo(), "undo()");
        x.pass();
        due(1, x.undo(), "undo() of pass()");
        due(0, x.undo(), "undo() of join()");
        due(NOT_POSSIBLE, x.undo(), "undo() is not undoable");

        x.setTop(12);
        fill(x, "j");
        due(0, x.undo(), "undo()");
        due(NONE, x.errorPosition(), "undo() leaves the buffer");
        due(1, x.clearText(), "clearText()");
    }

    private static void promise24WhatIsUndoable() {
        for (int what = 0; what < 10; what++) {
            LiftingStairs x = threeRecorded();
            String before = look(x);
            change(x, what);
            due(3, x.undo(), "undo() of change " + what);
            same(before, x, "undo() of change " + what);
        }
        LiftingStairs y = threeRecorded();
        String now = look(y);
        wrongCalls(y);
        same(now, y, "calls that fail change nothing");
        due(2, y.undo(), "calls that fail record nothing");
        y.pass();
        now = look(y);
        questions(y);
        same(now, y, "questions change nothing");
        due(2, y.undo(), "questions record nothing");
    }

    private static LiftingStairs threeRecorded() {
        LiftingStairs x = with("24 undoable", "j,j,l4,l6,c9>1,c8>1,4,3,2");
        x.save();
        x.pass();
        x.pass();
        return x;
    }

    private static void change(LiftingStairs x, int what) {
        switch (what) {
            case 0 -> due(30, x.setTop(30), "setTop(30), which makes no difference");
            case 1 -> due(3, x.lay(12, 3), "lay(12, 3)");
            case 2 -> due(1, x.take(9), "take(9)");
            case 3 -> due(3, x.put(7), "put(7)");
            case 4 -> due(1, x.remove(4), "remove(4)");
            case 5 -> due(2, x.join(), "join()");
            case 6 -> due(1, x.roll(5), "roll(5), of 0 over 1 to the carpet at 9");
            case 7 -> due(1, x.pass(), "pass()");
            case 8 -> due(3, fill(x, "5,p,6").play(), "play()");
            default -> due(2, x.restore(), "restore()");
        }
    }

    private static void wrongCalls(LiftingStairs x) {
        x.setTop(9);
        x.setTop(10 - 1);
        x.lay(0, 0);
        x.lay(9, 9);
        x.lay(9, 2);
        x.take(7);
        x.put(0);
        x.put(4);
        x.remove(5);
        x.roll(0);
        x.play();
    }

    private static void questions(LiftingStairs x) {
        x.on(4);
        x.rank(0);
        x.bestRoll();
        x.quietRolls();
        x.rollsToTop(0);
        x.ifRolled(5, 3);
        x.append('j');
        x.errorPosition();
        x.clearText();
        x.save();
    }

    private static void promise25Save() {
        LiftingStairs x = stairs("25 save", 0);
        due(0, x.save(), "save() without climbers");
        due(NOT_POSSIBLE, x.undo(), "save() is not undoable");
        x.join();
        x.join();
        due(2, x.save(), "save()");
        String second = look(x);
        x.roll(3);
        due(2, x.restore(), "restore()");
        same(second, x, "the later saved state");
        fill(x, "j,5,2,1").play();
        String third = look(x);
        due(3, x.save(), "save()");
        x.roll(6);
        x.restore();
        same(third, x, "the third saved state");
        x.undo();
        x.undo();
        x.undo();
        due(3, x.restore(), "undo() leaves the saved state");
    }

    private static void promise26Restore() {
        LiftingStairs x = stairs("26 restore", 0);
        due(NOT_POSSIBLE, x.restore(), "restore() without a saved state");
        due(NOT_POSSIBLE, x.undo(), "an error records nothing");
        fill(x, "j,j,j,l3,c9>2,3,5").play();
        String saved = look(x);
        x.save();
        fill(x, "6,j,l5,1,2").play();
        x.setTop(20);
        String later = look(x);
        fill(x, "jj");
        due(3, x.restore(), "restore()");
        same(saved, x, "the saved state");
        due(1, x.errorPosition(), "restore() leaves the buffer");
        due(2, x.clearText(), "clearText()");
        x.roll(4);
        due(3, x.restore(), "restore() again");
        same(saved, x, "the saved state remains saved");
        due(4, x.undo(), "undo() of restore()");
        x.undo();
        due(2, x.undo(), "undo() of the first restore()");
        same(later, x, "the state ahead of the first restore()");
    }
}
