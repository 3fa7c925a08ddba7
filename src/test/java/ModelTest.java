import java.util.ArrayDeque;
import java.util.ArrayList;
import java.util.Arrays;
import java.util.Deque;
import java.util.List;
import java.util.Random;
import java.util.TreeMap;
import java.util.TreeSet;
import java.util.regex.Matcher;
import java.util.regex.Pattern;

/**
 * Long runs of mixed calls, each answer compared with that of a second program of the document,
 * which follows its words step by step and shares nothing with the first one.
 */
public final class ModelTest {
    private static final int RUNS = 3000;
    private static final int CALLS = 512;
    private static final String[] CALL_NAMES = {
        "setTop", "lay", "take", "put", "remove", "join", "roll", "pass", "climber", "turn", "on",
        "step", "total", "rank", "ifRolled", "bestRoll", "quietRolls", "rollsToTop", "append",
        "clearText", "errorPosition", "play", "undo", "save", "restore"
    };
    private static final int[] WEIGHTS = {
        2, 6, 2, 3, 1, 3, 22, 3, 8, 2, 2, 3, 4, 2, 6, 4, 3, 4, 9, 1, 3, 3, 6, 1, 1
    };
    private static final String SIGNS = "1234560789pjcl,>x!";
    private static final String[] PIECES = {
        "1", "3", "6", "p", "j", "l7", "l12", "l0", "c9>2", "c15>11", "c29>0", "c5>5", ",", ",", ","
    };

    public static void main(String[] args) {
        for (int seed = 0; seed < RUNS; seed++) {
            String fault = faultOfRun(seed);
            if (fault != null) {
                System.out.println("seed " + seed + ": " + fault);
                System.exit(1);
            }
        }
        System.out.println(RUNS + " runs answered as the model does");
    }

    private static String faultOfRun(int seed) {
        Random random = new Random(seed);
        LiftingStairs x = new LiftingStairs();
        Model model = new Model();
        Deque<Integer> codes = new ArrayDeque<>();
        StringBuilder calls = new StringBuilder();
        // Some runs keep to low stairs, so that tops are reached often.
        if (seed % 3 == 0) {
            x.setTop(10);
            model.call("setTop", 10, 0);
        }
        for (int i = 0; i < CALLS - 1; i++) {
            String name = codes.isEmpty() ? pick(random) : "append";
            int a = codes.isEmpty() ? argument(random) : codes.poll();
            int b = argument(random);
            if (name.equals("append") && codes.isEmpty() && random.nextInt(2) == 0) {
                String piece = PIECES[random.nextInt(PIECES.length)];
                a = piece.charAt(0);
                for (char sign : piece.substring(1).toCharArray()) {
                    codes.add((int) sign);
                }
            } else if (name.equals("append") && codes.isEmpty() && random.nextInt(3) == 0) {
                a = SIGNS.charAt(random.nextInt(SIGNS.length()));
            }
            int got = Checks.call(x, name, a, b);
            int due = model.call(name, a, b);
            calls.append(name).append(' ').append(a).append(' ').append(b).append(" = ").append(got).append("; ");
            if (got != due) {
                return calls + " due is " + due;
            }
        }
        return null;
    }

    private static String pick(Random random) {
        int sum = Arrays.stream(WEIGHTS).sum();
        int at = random.nextInt(sum);
        int i = 0;
        while (at >= WEIGHTS[i]) {
            at -= WEIGHTS[i];
            i++;
        }
        return CALL_NAMES[i];
    }

    private static int argument(Random random) {
        switch (random.nextInt(40)) {
            case 0:
                return random.nextInt();
            case 1:
                return random.nextInt(140) - 5;
            case 2:
                return Integer.MIN_VALUE + random.nextInt(2);
            case 3:
                return Integer.MAX_VALUE - random.nextInt(2);
            case 4, 5, 6, 7, 8, 9, 10, 11:
                return random.nextInt(32);
            default:
                return random.nextInt(9) - 1;
        }
    }

    private static final class Climber {
        int place;
        int tops;
        int rests;
        int lifted;
        int lifting;
        int slips;
    }

    private static final class State {
        int top = 30;
        int mover;
        int rolls;
        int leftOut;
        final TreeMap<Integer, Integer> carpets = new TreeMap<>();
        final TreeSet<Integer> landings = new TreeSet<>();
        final List<Climber> climbers = new ArrayList<>();

        State copy() {
            State copy = new State();
            copy.top = top;
            copy.mover = mover;
            copy.rolls = rolls;
            copy.leftOut = leftOut;
            copy.carpets.putAll(carpets);
            copy.landings.addAll(landings);
            for (Climber old : climbers) {
                Climber climber = new Climber();
                climber.place = old.place;
                climber.tops = old.tops;
                climber.rests = old.rests;
                climber.lifted = old.lifted;
                climber.lifting = old.lifting;
                climber.slips = old.slips;
                copy.climbers.add(climber);
            }
            return copy;
        }

        int progress(int c) {
            return climbers.get(c).tops * top + climbers.get(c).place;
        }

        boolean somebodyOn(int step) {
            return climbers.stream().anyMatch(c -> c.place == step);
        }

        int lifts() {
            return climbers.stream().mapToInt(c -> c.lifting).sum();
        }

        int slips() {
            return climbers.stream().mapToInt(c -> c.slips).sum();
        }

        int tops() {
            return climbers.stream().mapToInt(c -> c.tops).sum();
        }

        void come(Climber climber, int step) {
            if (step >= top) {
                climber.tops++;
                climber.place = 0;
                return;
            }
            climber.place = step;
            if (carpets.containsKey(step)) {
                climber.place = carpets.get(step);
                climber.slips++;
            }
        }

        void roll(int n) {
            Climber roller = climbers.get(mover);
            int s = roller.place;
            List<Climber> passed = new ArrayList<>();
            for (int step = s + n - 1; step > s; step--) {
                for (Climber other : climbers) {
                    if (other.place == step && !landings.contains(step)) {
                        passed.add(other);
                    }
                }
            }
            for (Climber other : passed) {
                come(other, other.place + 1);
                other.lifted++;
                roller.lifting++;
            }
            come(roller, s + n);
            if (landings.contains(s + n)) {
                roller.rests++;
            }
            rolls++;
            next();
        }

        void next() {
            while (true) {
                mover = (mover + 1) % climbers.size();
                Climber climber = climbers.get(mover);
                if (climber.rests == 0) {
                    return;
                }
                climber.rests--;
                leftOut++;
            }
        }
    }

    private static final class Model {
        private static final int NO_SUCH = -1;
        private static final int BAD_VALUE = -2;
        private static final int NOT_POSSIBLE = -3;
        private static final int LIMIT = -4;
        private static final int BAD_TEXT = -5;
        private static final int NONE = -6;
        private static final Pattern TEXT;

        static {
            String number = "(0|[1-9][0-9]?)";
            String move = "([1-6]|p|j|c" + number + ">" + number + "|l" + number + ")";
            TEXT = Pattern.compile(move + "(," + move + ")*");
        }

        private State state = new State();
        private State saved = null;
        private final Deque<State> recorded = new ArrayDeque<>();
        private String buffer = "";

        int call(String name, int a, int b) {
            State before = state.copy();
            int answer = answer(name, a, b);
            boolean undoable = List.of(
                "setTop", "lay", "take", "put", "remove", "join", "roll", "pass", "play", "restore").contains(name);
            if (undoable && answer >= 0) {
                recorded.addLast(before);
                if (recorded.size() > 5) {
                    recorded.removeFirst();
                }
            }
            return answer;
        }

        private int answer(String name, int a, int b) {
            return switch (name) {
                case "setTop" -> setTop(a);
                case "lay" -> lay(a, b);
                case "take" -> state.carpets.containsKey(a) ? state.carpets.remove(a) : NO_SUCH;
                case "put" -> put(a);
                case "remove" -> state.landings.remove(a) ? Integer.bitCount(on(a)) : NO_SUCH;
                case "join" -> join();
                case "roll" -> roll(a);
                case "pass" -> pass();
                case "climber" -> climber(a, b);
                case "turn" -> state.climbers.isEmpty() ? NONE : state.mover;
                case "on" -> a < 0 || a >= state.top ? NO_SUCH : on(a);
                case "step" -> step(a, b);
                case "total" -> total(a);
                case "rank" -> rank(a);
                case "ifRolled" -> ifRolled(a, b);
                case "bestRoll" -> bestRoll();
                case "quietRolls" -> quietRolls();
                case "rollsToTop" -> rollsToTop(a);
                case "append" -> append(a);
                case "clearText" -> clearText();
                case "errorPosition" -> errorPosition();
                case "play" -> play();
                case "undo" -> undo();
                case "save" -> save();
                default -> restore();
            };
        }

        private int setTop(int top) {
            if (top < 10 || top > 60) {
                return BAD_VALUE;
            }
            boolean fits = state.carpets.tailMap(top).isEmpty() && state.landings.tailSet(top).isEmpty()
                && state.climbers.stream().allMatch(c -> c.place < top);
            if (!fits) {
                return NOT_POSSIBLE;
            }
            int previous = state.top;
            state.top = top;
            return previous;
        }

        private int lay(int upper, int lower) {
            if (upper < 1 || upper > state.top - 1) {
                return NO_SUCH;
            }
            if (lower < 0 || lower > upper - 1) {
                return BAD_VALUE;
            }
            boolean broken = state.carpets.containsKey(upper) || state.carpets.containsValue(upper)
                || state.carpets.containsKey(lower) || state.landings.contains(upper);
            if (broken || state.somebodyOn(upper)) {
                return NOT_POSSIBLE;
            }
            if (state.carpets.size() == 6) {
                return LIMIT;
            }
            state.carpets.put(upper, lower);
            return state.carpets.size();
        }

        private int put(int step) {
            if (step < 1 || step > state.top - 1) {
                return NO_SUCH;
            }
            if (state.carpets.containsKey(step) || !state.landings.add(step)) {
                return NOT_POSSIBLE;
            }
            return state.landings.size();
        }

        private int join() {
            if (state.climbers.size() == 6) {
                return LIMIT;
            }
            state.climbers.add(new Climber());
            return state.climbers.size() - 1;
        }

        private int roll(int n) {
            if (n < 1 || n > 6) {
                return BAD_VALUE;
            }
            if (state.climbers.isEmpty()) {
                return NOT_POSSIBLE;
            }
            Climber roller = state.climbers.get(state.mover);
            state.roll(n);
            return roller.place;
        }

        private int pass() {
            if (state.climbers.isEmpty()) {
                return NOT_POSSIBLE;
            }
            state.next();
            return state.mover;
        }

        private int climber(int c, int part) {
            if (c < 0 || c >= state.climbers.size()) {
                return NO_SUCH;
            }
            Climber x = state.climbers.get(c);
            int[] parts = {x.place, x.tops, x.rests, x.lifted, x.lifting, x.slips, state.progress(c)};
            return part < 0 || part >= parts.length ? BAD_VALUE : parts[part];
        }

        private int on(int step) {
            int mask = 0;
            for (int c = 0; c < state.climbers.size(); c++) {
                mask += state.climbers.get(c).place == step ? 1 << c : 0;
            }
            return mask;
        }

        private int step(int step, int part) {
            if (step < 0 || step > state.top) {
                return NO_SUCH;
            }
            int lowerEnds = (int) state.carpets.values().stream().filter(lower -> lower == step).count();
            int[] parts = {state.landings.contains(step) ? 1 : 0, state.carpets.getOrDefault(step, NONE), lowerEnds};
            return part < 0 || part >= parts.length ? BAD_VALUE : parts[part];
        }

        private int total(int what) {
            int[] totals = {
                state.top, state.climbers.size(), state.carpets.size(), state.landings.size(), state.rolls,
                state.lifts(), state.slips(), state.tops(), state.leftOut
            };
            return what < 0 || what >= totals.length ? BAD_VALUE : totals[what];
        }

        private int rank(int place) {
            if (place < 0) {
                return BAD_VALUE;
            }
            List<Integer> order = new ArrayList<>();
            for (int c = 0; c < state.climbers.size(); c++) {
                order.add(c);
            }
            order.sort((c, d) -> state.progress(d) - state.progress(c));
            return place < order.size() ? order.get(place) : NONE;
        }

        private int ifRolled(int n, int part) {
            if (n < 1 || n > 6 || part < 0 || part > 4) {
                return BAD_VALUE;
            }
            if (state.climbers.isEmpty()) {
                return NOT_POSSIBLE;
            }
            State then = state.copy();
            then.roll(n);
            int[] parts = {
                then.climbers.get(state.mover).place, then.lifts() - state.lifts(),
                then.tops() - state.tops(), then.slips() - state.slips(), then.mover
            };
            return parts[part];
        }

        private int bestRoll() {
            if (state.climbers.isEmpty()) {
                return NONE;
            }
            int best = 0;
            int most = Integer.MIN_VALUE;
            for (int n = 1; n <= 6; n++) {
                State then = state.copy();
                then.roll(n);
                int gain = 2 * (then.progress(state.mover) - state.progress(state.mover));
                for (int c = 0; c < state.climbers.size(); c++) {
                    gain -= then.progress(c) - state.progress(c);
                }
                if (gain > most) {
                    most = gain;
                    best = n;
                }
            }
            return best;
        }

        private int quietRolls() {
            if (state.climbers.isEmpty()) {
                return NONE;
            }
            int mask = 0;
            for (int n = 1; n <= 6; n++) {
                mask |= ifRolled(n, 1) == 0 ? 1 << n : 0;
            }
            return mask;
        }

        private int rollsToTop(int c) {
            if (c < 0 || c >= state.climbers.size()) {
                return NO_SUCH;
            }
            // rolls[s]: the fewest rolls from s to the top, made better until nothing changes.
            int far = 10000;
            int[] rolls = new int[state.top];
            Arrays.fill(rolls, far);
            boolean better = true;
            while (better) {
                better = false;
                for (int s = 0; s < state.top; s++) {
                    for (int n = 1; n <= 6; n++) {
                        int to = state.carpets.getOrDefault(s + n, s + n);
                        int count = to >= state.top ? 1 : rolls[to] + 1;
                        if (count < rolls[s]) {
                            rolls[s] = count;
                            better = true;
                        }
                    }
                }
            }
            int fewest = rolls[state.climbers.get(c).place];
            return fewest >= far ? NONE : fewest;
        }

        private int append(int code) {
            if (code < 33 || code > 126) {
                return BAD_VALUE;
            }
            if (buffer.length() == 60) {
                return LIMIT;
            }
            buffer += (char) code;
            return buffer.length();
        }

        private int clearText() {
            int length = buffer.length();
            buffer = "";
            return length;
        }

        private int errorPosition() {
            for (int end = 1; end <= buffer.length(); end++) {
                Matcher start = TEXT.matcher(buffer.substring(0, end));
                if (!start.matches() && !start.hitEnd()) {
                    return end - 1;
                }
            }
            return TEXT.matcher(buffer).matches() ? NONE : buffer.length();
        }

        private int play() {
            if (!TEXT.matcher(buffer).matches()) {
                return BAD_TEXT;
            }
            int made = 0;
            for (String move : buffer.split(",")) {
                if (make(move) < 0) {
                    break;
                }
                made++;
            }
            buffer = "";
            return made;
        }

        private int make(String move) {
            String rest = move.substring(1);
            return switch (move.charAt(0)) {
                case 'p' -> pass();
                case 'j' -> join();
                case 'l' -> put(Integer.parseInt(rest));
                case 'c' -> lay(Integer.parseInt(rest.split(">")[0]), Integer.parseInt(rest.split(">")[1]));
                default -> roll(Integer.parseInt(move));
            };
        }

        private int undo() {
            if (recorded.isEmpty()) {
                return NOT_POSSIBLE;
            }
            state = recorded.removeLast();
            return recorded.size();
        }

        private int save() {
            saved = state.copy();
            return state.climbers.size();
        }

        private int restore() {
            if (saved == null) {
                return NOT_POSSIBLE;
            }
            state = saved.copy();
            return state.climbers.size();
        }
    }
}
