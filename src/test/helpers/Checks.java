/**
 * What the tests of single calls share: to make an object, to look at all of it, and to compare.
 * An object answers as the document says for 512 calls only, so that a test must not look at one
 * object too often.
 */
abstract class Checks {
    static final int NO_SUCH = -1;
    static final int BAD_VALUE = -2;
    static final int NOT_POSSIBLE = -3;
    static final int LIMIT = -4;
    static final int BAD_TEXT = -5;
    static final int NONE = -6;
    /** Values out of every range, the constants' own values among them. */
    static final int[] FAR_OUT = {Integer.MIN_VALUE, Integer.MIN_VALUE + 1, Integer.MAX_VALUE, -7, -6, -2, 1000};

    private static int wrong = 0;
    private static String current = "";

    /** Names what is tested from here on: a promise, or a sentence of the document. */
    static void about(String what) {
        current = what;
    }

    static void due(int want, int got, String what) {
        due(Integer.toString(want), Integer.toString(got), what);
    }

    static void due(String want, String got, String what) {
        if (!want.equals(got)) {
            wrong++;
            System.out.println(current + ": " + what + " answered " + got + ", due is " + want);
        }
    }

    static void same(String want, LiftingStairs x, String what) {
        due(want, look(x), what + ": the state");
    }

    /** To be called last: tells how it went, and ends with exit code 1 if an answer was wrong. */
    static void end() {
        System.out.println(wrong == 0 ? "all answers are as due" : wrong + " answers are not as due");
        if (wrong != 0) {
            System.exit(1);
        }
    }

    static LiftingStairs stairs(int top, int climbers) {
        LiftingStairs x = new LiftingStairs();
        if (top != 30) {
            x.setTop(top);
        }
        for (int c = 0; c < climbers; c++) {
            x.join();
        }
        return x;
    }

    /**
     * Climbers on these steps, 0 on the move. They have passed and rolled, but nobody was lifted:
     * the highest one goes first, and nobody passes those on the ground.
     */
    static LiftingStairs onSteps(int top, int... steps) {
        LiftingStairs x = stairs(top, steps.length);
        for (int step = top - 1; step > 0; step--) {
            for (int c = 0; c < steps.length; c++) {
                for (int at = 0; steps[c] == step && at < step; at += 6) {
                    onTheMove(x, c).roll(Math.min(6, step - at));
                }
            }
        }
        return onTheMove(x, 0);
    }

    /** Passes until this climber is on the move; nobody must have to rest. */
    static LiftingStairs onTheMove(LiftingStairs x, int climber) {
        for (int i = 0; i < 6 && x.turn() != climber; i++) {
            x.pass();
        }
        due(climber, x.turn(), "turn()");
        return x;
    }

    static LiftingStairs fill(LiftingStairs x, String text) {
        for (int i = 0; i < text.length(); i++) {
            x.append(text.charAt(i));
        }
        return x;
    }

    /** Makes each move of the text by its own method, all of which must be possible. */
    static LiftingStairs moves(LiftingStairs x, String text) {
        for (String move : text.split(",")) {
            if (move(x, move) < 0) {
                due("possible", "refused", "move " + move + " of " + text);
            }
        }
        return x;
    }

    private static int move(LiftingStairs x, String move) {
        String rest = move.substring(1);
        return switch (move.charAt(0)) {
            case 'p' -> x.pass();
            case 'j' -> x.join();
            case 'l' -> x.put(Integer.parseInt(rest));
            case 'c' -> x.lay(Integer.parseInt(rest.split(">")[0]), Integer.parseInt(rest.split(">")[1]));
            default -> x.roll(Integer.parseInt(move));
        };
    }

    /** Calls the method of this name; those with fewer arguments take the first ones. */
    static int call(LiftingStairs x, String name, int a, int b) {
        return switch (name) {
            case "setTop" -> x.setTop(a);
            case "lay" -> x.lay(a, b);
            case "take" -> x.take(a);
            case "put" -> x.put(a);
            case "remove" -> x.remove(a);
            case "join" -> x.join();
            case "roll" -> x.roll(a);
            case "pass" -> x.pass();
            case "climber" -> x.climber(a, b);
            case "turn" -> x.turn();
            case "on" -> x.on(a);
            case "step" -> x.step(a, b);
            case "total" -> x.total(a);
            case "rank" -> x.rank(a);
            case "ifRolled" -> x.ifRolled(a, b);
            case "bestRoll" -> x.bestRoll();
            case "quietRolls" -> x.quietRolls();
            case "rollsToTop" -> x.rollsToTop(a);
            case "append" -> x.append(a);
            case "clearText" -> x.clearText();
            case "errorPosition" -> x.errorPosition();
            case "play" -> x.play();
            case "undo" -> x.undo();
            case "save" -> x.save();
            case "restore" -> x.restore();
            default -> throw new IllegalArgumentException(name);
        };
    }

    /** All that there is in the current state, in one row. */
    static String look(LiftingStairs x) {
        StringBuilder all = new StringBuilder("totals");
        for (int what = 0; what < 9; what++) {
            all.append(' ').append(x.total(what));
        }
        all.append(", turn ").append(x.turn());
        int climbers = x.total(1);
        for (int c = 0; c < climbers; c++) {
            all.append(", climber");
            for (int part = 0; part < 6; part++) {
                all.append(' ').append(x.climber(c, part));
            }
        }
        int top = x.total(0);
        for (int s = 1; s < top; s++) {
            if (x.step(s, 0) != 0) {
                all.append(", landing ").append(s);
            }
            int lower = x.step(s, 1);
            if (lower != NONE) {
                all.append(", carpet ").append(s).append('>').append(lower);
            }
        }
        return all.toString();
    }

    /**
     * Also what is not in the current state: the buffer, the recorded states, the saved one. Takes
     * the object apart, so that nothing more can be asked of it.
     */
    static String lookThrough(LiftingStairs x) {
        StringBuilder all = new StringBuilder(look(x));
        all.append("; text ").append(x.errorPosition()).append(' ').append(x.clearText());
        int left = x.undo();
        for (int i = 0; i < 6 && left >= 0; i++) {
            all.append("; recorded ").append(left + 1).append(": ").append(look(x));
            left = x.undo();
        }
        all.append("; undo ").append(left).append("; saved ").append(x.restore());
        return all.append(": ").append(look(x)).toString();
    }
}
