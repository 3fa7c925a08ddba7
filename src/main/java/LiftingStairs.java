/** A game of stairs where those passed go up by one; README.md tells how to use it. */
public final class LiftingStairs {
    public static final int NO_SUCH = -1;
    public static final int BAD_VALUE = -2;
    public static final int NOT_POSSIBLE = -3;
    public static final int LIMIT = -4;
    public static final int BAD_TEXT = -5;
    public static final int NONE = -6;

    private static final int LEAST_TOP = 10;
    private static final int GREATEST_TOP = 60;
    private static final int FIRST_TOP = 30;
    private static final int MOST_CARPETS = 6;
    private static final int MOST_CLIMBERS = 6;
    private static final int GREATEST_ROLL = 6;
    private static final int MOST_SIGNS = 60;
    private static final int MOST_RECORDED = 5;

    private final Game game = new Game();
    private final Game ahead = new Game();
    private final Game trial = new Game();
    private final Game saved = new Game();
    private final History history = new History();
    private final MoveText text = new MoveText();
    private boolean hasSaved = false;

    public LiftingStairs() {
    }

    // ---- the stairs

    public int setTop(int top) {
        ahead.copyFrom(game);
        return recordUnlessError(game.changeTop(top));
    }

    public int lay(int upper, int lower) {
        ahead.copyFrom(game);
        return recordUnlessError(game.layCarpet(upper, lower));
    }

    public int take(int upper) {
        ahead.copyFrom(game);
        return recordUnlessError(game.takeCarpet(upper));
    }

    public int put(int step) {
        ahead.copyFrom(game);
        return recordUnlessError(game.putLanding(step));
    }

    public int remove(int step) {
        ahead.copyFrom(game);
        return recordUnlessError(game.removeLanding(step));
    }

    // ---- climbers

    public int join() {
        ahead.copyFrom(game);
        return recordUnlessError(game.addClimber());
    }

    public int roll(int number) {
        ahead.copyFrom(game);
        return recordUnlessError(game.makeRoll(number));
    }

    public int pass() {
        ahead.copyFrom(game);
        return recordUnlessError(game.makePass());
    }

    // ---- what there is

    public int climber(int climber, int part) {
        return game.partOfClimber(climber, part);
    }

    public int turn() {
        return game.hasMover() ? game.mover : NONE;
    }

    public int on(int step) {
        return game.isBelowTop(step) ? game.climbersOn(step) : NO_SUCH;
    }

    public int step(int step, int part) {
        return game.partOfStep(step, part);
    }

    public int total(int what) {
        return game.totalOf(what);
    }

    public int rank(int place) {
        return place < 0 ? BAD_VALUE : game.climberAtPlace(place);
    }

    // ---- predictions; they change nothing

    public int ifRolled(int number, int part) {
        if (!isRoll(number) || part < 0 || part > 4) {
            return BAD_VALUE;
        }
        if (!game.hasMover()) {
            return NOT_POSSIBLE;
        }
        int stepThen = rollInTrial(number);
        switch (part) {
            case 0:
                return stepThen;
            case 1:
                return trial.liftsOfAll() - game.liftsOfAll();
            case 2:
                return trial.topsOfAll() - game.topsOfAll();
            case 3:
                return trial.slipsOfAll() - game.slipsOfAll();
            default:
                return trial.mover;
        }
    }

    public int bestRoll() {
        if (!game.hasMover()) {
            return NONE;
        }
        int best = 1;
        int bestGain = gainOfRoll(1);
        for (int number = 2; number <= GREATEST_ROLL; number++) {
            int gain = gainOfRoll(number);
            if (gain > bestGain) {
                best = number;
                bestGain = gain;
            }
        }
        return best;
    }

    public int quietRolls() {
        if (!game.hasMover()) {
            return NONE;
        }
        int quiet = 0;
        for (int number = 1; number <= GREATEST_ROLL; number++) {
            if (!game.wouldLift(number)) {
                quiet |= 1 << number;
            }
        }
        return quiet;
    }

    public int rollsToTop(int climber) {
        return game.isClimber(climber) ? game.fewestRollsOf(climber) : NO_SUCH;
    }

    // ---- texts

    public int append(int code) {
        return text.addSign(code);
    }

    public int clearText() {
        return text.dropAll();
    }

    public int errorPosition() {
        return text.firstError();
    }

    public int play() {
        if (text.firstError() != NONE) {
            return BAD_TEXT;
        }
        ahead.copyFrom(game);
        int made = makeMovesOfText();
        text.dropAll();
        return recordUnlessError(made);
    }

    // ---- undo, saved state

    public int undo() {
        return history.isEmpty() ? NOT_POSSIBLE : history.moveLatestTo(game);
    }

    public int save() {
        saved.copyFrom(game);
        hasSaved = true;
        return game.climbers;
    }

    public int restore() {
        if (!hasSaved) {
            return NOT_POSSIBLE;
        }
        ahead.copyFrom(game);
        game.copyFrom(saved);
        return recordUnlessError(game.climbers);
    }

    private int recordUnlessError(int answer) {
        // An undoable call never answers NONE, so that every negative answer is an error code.
        if (answer >= 0) {
            history.keep(ahead);
        }
        return answer;
    }

    private int rollInTrial(int number) {
        trial.copyFrom(game);
        return trial.makeRoll(number);
    }

    private int gainOfRoll(int number) {
        rollInTrial(number);
        int gain = 0;
        for (int climber = 0; climber < game.climbers; climber++) {
            int growth = trial.progressOf(climber) - game.progressOf(climber);
            gain += climber == game.mover ? growth : -growth;
        }
        return gain;
    }

    private int makeMovesOfText() {
        int made = 0;
        for (int at = 0; at < text.length; at++) {
            if (!text.isMoveStart(at)) {
                continue;
            }
            if (makeMoveAt(at) < 0) {
                return made;
            }
            made++;
        }
        return made;
    }

    private int makeMoveAt(int at) {
        char kind = text.signAt(at);
        if (kind == 'p') {
            return game.makePass();
        }
        if (kind == 'j') {
            return game.addClimber();
        }
        if (kind == 'c') {
            return game.layCarpet(text.numberAt(at + 1), text.numberAt(text.behindArrow(at)));
        }
        if (kind == 'l') {
            return game.putLanding(text.numberAt(at + 1));
        }
        return game.makeRoll(text.numberAt(at));
    }

    private static boolean isRoll(int number) {
        return number >= 1 && number <= GREATEST_ROLL;
    }

    /** One state, and the rules by which it changes. */
    private static final class Game {
        // NONE stands at the steps where no carpet has its upper end.
        private final int[] lowerEnds = new int[GREATEST_TOP];
        private final boolean[] landings = new boolean[GREATEST_TOP];
        private final int[] places = new int[MOST_CLIMBERS];
        private final int[] tops = new int[MOST_CLIMBERS];
        private final int[] rests = new int[MOST_CLIMBERS];
        private final int[] timesLifted = new int[MOST_CLIMBERS];
        private final int[] liftsMade = new int[MOST_CLIMBERS];
        private final int[] slips = new int[MOST_CLIMBERS];
        private int top = FIRST_TOP;
        private int climbers = 0;
        private int mover = 0;
        private int rolls = 0;
        private int turnsLeftOut = 0;

        Game() {
            for (int step = 0; step < GREATEST_TOP; step++) {
                lowerEnds[step] = NONE;
            }
        }

        void copyFrom(Game other) {
            if (other == null) {
                return;
            }
            System.arraycopy(other.lowerEnds, 0, lowerEnds, 0, GREATEST_TOP);
            System.arraycopy(other.landings, 0, landings, 0, GREATEST_TOP);
            System.arraycopy(other.places, 0, places, 0, MOST_CLIMBERS);
            System.arraycopy(other.tops, 0, tops, 0, MOST_CLIMBERS);
            System.arraycopy(other.rests, 0, rests, 0, MOST_CLIMBERS);
            System.arraycopy(other.timesLifted, 0, timesLifted, 0, MOST_CLIMBERS);
            System.arraycopy(other.liftsMade, 0, liftsMade, 0, MOST_CLIMBERS);
            System.arraycopy(other.slips, 0, slips, 0, MOST_CLIMBERS);
            top = other.top;
            climbers = other.climbers;
            mover = other.mover;
            rolls = other.rolls;
            turnsLeftOut = other.turnsLeftOut;
        }

        boolean isBelowTop(int step) {
            return step >= 0 && step < top;
        }

        boolean isClimber(int climber) {
            return climber >= 0 && climber < climbers;
        }

        boolean hasMover() {
            return isClimber(mover);
        }

        int changeTop(int newTop) {
            if (newTop < LEAST_TOP || newTop > GREATEST_TOP) {
                return BAD_VALUE;
            }
            for (int step = newTop; step < top; step++) {
                if (landings[step] || isUpperEnd(step) || climbersOn(step) != 0) {
                    return NOT_POSSIBLE;
                }
            }
            int previous = top;
            top = newTop;
            return previous;
        }

        int layCarpet(int upper, int lower) {
            if (upper == 0 || !isBelowTop(upper)) {
                return NO_SUCH;
            }
            if (lower < 0 || lower >= upper) {
                return BAD_VALUE;
            }
            if (isUpperEnd(upper) || isUpperEnd(lower) || lowerEndsAt(upper) > 0) {
                return NOT_POSSIBLE;
            }
            if (landings[upper] || climbersOn(upper) != 0) {
                return NOT_POSSIBLE;
            }
            if (countCarpets() >= MOST_CARPETS) {
                return LIMIT;
            }
            lowerEnds[upper] = lower;
            return countCarpets();
        }

        int takeCarpet(int upper) {
            if (!isUpperEnd(upper)) {
                return NO_SUCH;
            }
            int lower = lowerEnds[upper];
            lowerEnds[upper] = NONE;
            return lower;
        }

        int putLanding(int step) {
            if (step == 0 || !isBelowTop(step)) {
                return NO_SUCH;
            }
            if (landings[step] || isUpperEnd(step)) {
                return NOT_POSSIBLE;
            }
            landings[step] = true;
            return countLandings();
        }

        int removeLanding(int step) {
            if (!isLanding(step)) {
                return NO_SUCH;
            }
            landings[step] = false;
            return Integer.bitCount(climbersOn(step));
        }

        int addClimber() {
            if (climbers >= MOST_CLIMBERS) {
                return LIMIT;
            }
            climbers++;
            return climbers - 1;
        }

        int makeRoll(int number) {
            if (!isRoll(number)) {
                return BAD_VALUE;
            }
            if (!hasMover()) {
                return NOT_POSSIBLE;
            }
            int roller = mover;
            int target = places[roller] + number;
            rolls++;
            liftThosePassed(number);
            comeTo(roller, target);
            if (isLanding(target)) {
                rests[roller]++;
            }
            goToNextMover();
            return places[roller];
        }

        int makePass() {
            if (!hasMover()) {
                return NOT_POSSIBLE;
            }
            goToNextMover();
            return mover;
        }

        boolean wouldLift(int number) {
            for (int climber = 0; climber < climbers; climber++) {
                if (isPassed(climber, number)) {
                    return true;
                }
            }
            return false;
        }

        private boolean isPassed(int climber, int number) {
            int place = places[climber];
            int start = places[mover];
            return place > start && place < start + number && !isLanding(place);
        }

        private void liftThosePassed(int number) {
            // A lift changes nothing but the lifted climber's own place and counts, so that going
            // through by numbers gives the same as the document's order, higher steps first.
            for (int climber = 0; climber < climbers; climber++) {
                if (isPassed(climber, number)) {
                    timesLifted[climber]++;
                    liftsMade[mover]++;
                    comeTo(climber, places[climber] + 1);
                }
            }
        }

        private void comeTo(int climber, int step) {
            if (!isBelowTop(step)) {
                tops[climber]++;
                places[climber] = 0;
            } else if (lowerEnds[step] != NONE) {
                slips[climber]++;
                places[climber] = lowerEnds[step];
            } else {
                places[climber] = step;
            }
        }

        private void goToNextMover() {
            int next = behind(mover);
            // Only the climber on the move can get a turn to rest, and has none before: nobody
            // ever has two, and the second time round everybody is without.
            for (int gone = 0; gone < 2 * MOST_CLIMBERS && rests[next] > 0; gone++) {
                rests[next]--;
                turnsLeftOut++;
                next = behind(next);
            }
            mover = next;
        }

        private int behind(int climber) {
            return isClimber(climber + 1) ? climber + 1 : 0;
        }

        boolean isLanding(int step) {
            return step >= 0 && step < top && landings[step];
        }

        boolean isUpperEnd(int step) {
            return step >= 0 && step < top && lowerEnds[step] != NONE;
        }

        int climbersOn(int step) {
            int mask = 0;
            for (int climber = 0; climber < climbers; climber++) {
                if (places[climber] == step) {
                    mask |= 1 << climber;
                }
            }
            return mask;
        }

        int countCarpets() {
            int count = 0;
            for (int step = 0; step < top; step++) {
                if (isUpperEnd(step)) {
                    count++;
                }
            }
            return count;
        }

        int countLandings() {
            int count = 0;
            for (int step = 0; step < top; step++) {
                if (isLanding(step)) {
                    count++;
                }
            }
            return count;
        }

        int lowerEndsAt(int lower) {
            int count = 0;
            for (int step = 0; step < top; step++) {
                if (lowerEnds[step] == lower) {
                    count++;
                }
            }
            return count;
        }

        int partOfStep(int step, int part) {
            if (step != top && !isBelowTop(step)) {
                return NO_SUCH;
            }
            switch (part) {
                case 0:
                    return isLanding(step) ? 1 : 0;
                case 1:
                    return isUpperEnd(step) ? lowerEnds[step] : NONE;
                case 2:
                    return lowerEndsAt(step);
                default:
                    return BAD_VALUE;
            }
        }

        int partOfClimber(int climber, int part) {
            if (!isClimber(climber)) {
                return NO_SUCH;
            }
            switch (part) {
                case 0:
                    return places[climber];
                case 1:
                    return tops[climber];
                case 2:
                    return rests[climber];
                case 3:
                    return timesLifted[climber];
                case 4:
                    return liftsMade[climber];
                case 5:
                    return slips[climber];
                case 6:
                    return progressOf(climber);
                default:
                    return BAD_VALUE;
            }
        }

        int progressOf(int climber) {
            return isClimber(climber) ? tops[climber] * top + places[climber] : 0;
        }

        int totalOf(int what) {
            switch (what) {
                case 0:
                    return top;
                case 1:
                    return climbers;
                case 2:
                    return countCarpets();
                case 3:
                    return countLandings();
                case 4:
                    return rolls;
                case 5:
                    return liftsOfAll();
                case 6:
                    return slipsOfAll();
                case 7:
                    return topsOfAll();
                case 8:
                    return turnsLeftOut;
                default:
                    return BAD_VALUE;
            }
        }

        int liftsOfAll() {
            return sumOf(timesLifted);
        }

        int slipsOfAll() {
            return sumOf(slips);
        }

        int topsOfAll() {
            return sumOf(tops);
        }

        private static int sumOf(int[] counts) {
            int sum = 0;
            for (int count : counts) {
                sum += count;
            }
            return sum;
        }

        int climberAtPlace(int place) {
            for (int climber = 0; climber < climbers; climber++) {
                if (climbersAheadOf(climber) == place) {
                    return climber;
                }
            }
            return NONE;
        }

        private int climbersAheadOf(int climber) {
            int count = 0;
            int progress = progressOf(climber);
            for (int other = 0; other < climbers; other++) {
                int otherProgress = progressOf(other);
                if (otherProgress > progress || otherProgress == progress && other < climber) {
                    count++;
                }
            }
            return count;
        }

        int fewestRollsOf(int climber) {
            // Bit s stands for step s: no step is above 59, so that a long holds them all.
            long reached = 1L << places[climber];
            for (int count = 1; count <= top; count++) {
                if (reached >>> (top - GREATEST_ROLL) != 0) {
                    return count;
                }
                reached = reachedWithOneMore(reached);
            }
            return NONE;
        }

        private long reachedWithOneMore(long reached) {
            long more = reached;
            for (int step = 0; step < top; step++) {
                if ((reached >>> step & 1) != 0) {
                    more |= reachedFrom(step);
                }
            }
            return more;
        }

        private long reachedFrom(int start) {
            long reached = 0;
            for (int step = start + 1; step <= start + GREATEST_ROLL && step < top; step++) {
                reached |= 1L << (isUpperEnd(step) ? lowerEnds[step] : step);
            }
            return reached;
        }
    }

    /** The recorded states, the oldest one first. */
    private static final class History {
        private final Game[] games = new Game[MOST_RECORDED];
        private int count = 0;

        History() {
            for (int i = 0; i < MOST_RECORDED; i++) {
                games[i] = new Game();
            }
        }

        boolean isEmpty() {
            return count <= 0;
        }

        void keep(Game game) {
            if (count >= MOST_RECORDED) {
                makeOldestLast();
                count = MOST_RECORDED - 1;
            }
            Game kept = games[count];
            if (kept != null) {
                kept.copyFrom(game);
            }
            count++;
        }

        int moveLatestTo(Game game) {
            if (count > 0) {
                count--;
                game.copyFrom(games[count]);
            }
            return count;
        }

        private void makeOldestLast() {
            // The oldest object is written over, so that recording makes no new objects.
            Game oldest = games[0];
            for (int i = 1; i < MOST_RECORDED; i++) {
                games[i - 1] = games[i];
            }
            games[MOST_RECORDED - 1] = oldest;
        }
    }

    /** The buffer, and the grammar of the moves in it. */
    private static final class MoveText {
        private static final int LOWEST_CODE = 33;
        private static final int HIGHEST_CODE = 126;

        // What the signs so far ask for next.
        private static final int REFUSED = 0;
        private static final int MOVE = 1;
        private static final int COMMA = 2;
        private static final int UPPER = 3;
        private static final int DIGIT_OR_ARROW = 4;
        private static final int ARROW = 5;
        private static final int LAST_NUMBER = 6;
        private static final int DIGIT_OR_COMMA = 7;

        private final char[] signs = new char[MOST_SIGNS];
        private int length = 0;

        int addSign(int code) {
            if (code < LOWEST_CODE || code > HIGHEST_CODE) {
                return BAD_VALUE;
            }
            if (length >= MOST_SIGNS) {
                return LIMIT;
            }
            signs[length] = (char) code;
            length++;
            return length;
        }

        int dropAll() {
            int dropped = length;
            length = 0;
            return dropped;
        }

        int firstError() {
            int wanted = MOVE;
            for (int at = 0; at < length; at++) {
                wanted = wantedBehind(wanted, signs[at]);
                if (wanted == REFUSED) {
                    return at;
                }
            }
            return wanted == COMMA || wanted == DIGIT_OR_COMMA ? NONE : length;
        }

        private static int wantedBehind(int wanted, char sign) {
            switch (wanted) {
                case MOVE:
                    return wantedBehindMoveStart(sign);
                case COMMA:
                    return wantedBehindComma(sign);
                case UPPER:
                    return wantedBehindNumberStart(sign, ARROW, DIGIT_OR_ARROW);
                case DIGIT_OR_ARROW:
                    return isDigit(sign) ? ARROW : wantedBehindArrow(sign);
                case ARROW:
                    return wantedBehindArrow(sign);
                case LAST_NUMBER:
                    return wantedBehindNumberStart(sign, COMMA, DIGIT_OR_COMMA);
                case DIGIT_OR_COMMA:
                    return isDigit(sign) ? COMMA : wantedBehindComma(sign);
                default:
                    return REFUSED;
            }
        }

        private static int wantedBehindMoveStart(char sign) {
            if (sign == 'p' || sign == 'j' || isRoll(sign - '0')) {
                return COMMA;
            }
            if (sign == 'c') {
                return UPPER;
            }
            return sign == 'l' ? LAST_NUMBER : REFUSED;
        }

        private static int wantedBehindComma(char sign) {
            return sign == ',' ? MOVE : REFUSED;
        }

        private static int wantedBehindArrow(char sign) {
            return sign == '>' ? LAST_NUMBER : REFUSED;
        }

        private static int wantedBehindNumberStart(char sign, int behindZero, int behindOther) {
            if (!isDigit(sign)) {
                return REFUSED;
            }
            return sign == '0' ? behindZero : behindOther;
        }

        private static boolean isDigit(char sign) {
            return sign >= '0' && sign <= '9';
        }

        char signAt(int at) {
            return at >= 0 && at < length ? signs[at] : ' ';
        }

        boolean isMoveStart(int at) {
            return at == 0 || signAt(at - 1) == ',';
        }

        int numberAt(int start) {
            int number = 0;
            for (int at = start; at < length && isDigit(signAt(at)); at++) {
                number = 10 * number + (signAt(at) - '0');
            }
            return number;
        }

        int behindArrow(int start) {
            for (int at = start; at < length; at++) {
                if (signAt(at) == '>') {
                    return at + 1;
                }
            }
            return length;
        }
    }
}
