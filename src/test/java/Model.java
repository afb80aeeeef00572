import java.util.ArrayDeque;
import java.util.ArrayList;
import java.util.Arrays;
import java.util.BitSet;
import java.util.Deque;
import java.util.HashSet;
import java.util.List;
import java.util.Set;
import java.util.regex.Matcher;
import java.util.regex.Pattern;

/** The document once more, written apart from the program: states that never change, sets of points, and patterns. */
final class Model {
    static final int NO_SUCH = -1001;
    static final int BAD_VALUE = -1002;
    static final int NOT_POSSIBLE = -1003;
    static final int LIMIT = -1004;
    static final int BAD_TEXT = -1005;
    static final int NONE = -1006;

    private static final String COORDINATE = "(30|[12][0-9]|[0-9])";
    private static final String ITEM = "(m" + COORDINATE + "," + COORDINATE + "s([1-3])p([0-2])|r"
        + COORDINATE + "," + COORDINATE + ":(1[0-5]|[1-9]))";
    private static final Pattern TEXT = Pattern.compile(ITEM + "(;" + ITEM + ")*");
    private static final int[][] STEPS = {{0, -1}, {1, -1}, {1, 0}, {1, 1}, {0, 1}, {-1, 1}, {-1, 0}, {-1, -1}};

    record Point(int x, int y) {
    }

    /** A marble; winner is -1 as long as it lies on its point. */
    record Ball(Point point, int size, int owner, int winner) {
        boolean lies() {
            return winner < 0;
        }
    }

    record Chalk(Point centre, int radius) {
        boolean holds(Point point) {
            return Math.hypot(centre.x - point.x, centre.y - point.y) <= radius + 1e-9;
        }
    }

    record State(List<Ball> balls, List<Chalk> chalks, int onMove, int flicks, int hits, int wins, int grows,
        int walls) {
    }

    record Outcome(State after, List<Integer> won, int sizes, int hits, int last, Point rest) {
    }

    private State state = new State(List.of(), List.of(), 0, 0, 0, 0, 0, 0);
    private final Deque<State> saved = new ArrayDeque<>();
    private String text = "";

    private void become(State next) {
        saved.addLast(state);
        if (saved.size() > 6) {
            saved.removeFirst();
        }
        state = next;
    }

    private static boolean isPoint(int x, int y) {
        return x >= 0 && y >= 0 && x < 31 && y < 31;
    }

    private static <T> List<T> with(List<T> list, T more) {
        List<T> all = new ArrayList<>(list);
        all.add(more);
        return List.copyOf(all);
    }

    private static int lying(State at, Point point) {
        for (int i = 0; i < at.balls.size(); i++) {
            if (at.balls.get(i).lies() && at.balls.get(i).point.equals(point)) {
                return i;
            }
        }
        return NONE;
    }

    private static Set<Integer> rings(State at, Point point) {
        Set<Integer> set = new HashSet<>();
        for (int i = 0; i < at.chalks.size(); i++) {
            if (at.chalks.get(i).holds(point)) {
                set.add(i);
            }
        }
        return set;
    }

    private static int mask(Set<Integer> set) {
        BitSet bits = new BitSet();
        set.forEach(bits::set);
        return bits.isEmpty() ? 0 : (int) bits.toLongArray()[0];
    }

    private static State withBalls(State s, List<Ball> balls) {
        return new State(List.copyOf(balls), s.chalks, s.onMove, s.flicks, s.hits, s.wins, s.grows, s.walls);
    }

    private static State withChalks(State s, List<Chalk> chalks) {
        return new State(s.balls, List.copyOf(chalks), s.onMove, s.flicks, s.hits, s.wins, s.grows, s.walls);
    }

    private static int put(State s, int x, int y, int size, int owner, State[] after) {
        if (!isPoint(x, y) || owner < 0 || owner > 2) {
            return NO_SUCH;
        }
        if (size < 1 || size > 3) {
            return BAD_VALUE;
        }
        if (lying(s, new Point(x, y)) != NONE) {
            return NOT_POSSIBLE;
        }
        if (s.balls.size() == 12) {
            return LIMIT;
        }
        after[0] = withBalls(s, with(s.balls, new Ball(new Point(x, y), size, owner, -1)));
        return s.balls.size();
    }

    private static int draw(State s, int x, int y, int radius, State[] after) {
        if (!isPoint(x, y)) {
            return NO_SUCH;
        }
        if (radius < 1 || radius > 15) {
            return BAD_VALUE;
        }
        if (s.chalks.size() == 4) {
            return LIMIT;
        }
        after[0] = withChalks(s, with(s.chalks, new Chalk(new Point(x, y), radius)));
        return s.chalks.size();
    }

    int putMarble(int x, int y, int size, int owner) {
        State[] after = new State[1];
        int answer = put(state, x, y, size, owner, after);
        if (after[0] != null) {
            become(after[0]);
        }
        return answer;
    }

    int drawRing(int x, int y, int radius) {
        State[] after = new State[1];
        int answer = draw(state, x, y, radius, after);
        if (after[0] != null) {
            become(after[0]);
        }
        return answer;
    }

    private boolean isBall(int marble) {
        return marble >= 0 && marble < state.balls.size();
    }

    int move(int marble, int x, int y) {
        if (!isBall(marble) || !isPoint(x, y)) {
            return NO_SUCH;
        }
        Ball ball = state.balls.get(marble);
        if (!ball.lies() || lying(state, new Point(x, y)) != NONE) {
            return NOT_POSSIBLE;
        }
        List<Ball> balls = new ArrayList<>(state.balls);
        balls.set(marble, new Ball(new Point(x, y), ball.size, ball.owner, -1));
        become(withBalls(state, balls));
        return rings(state, new Point(x, y)).size();
    }

    int clear() {
        int before = state.balls.size();
        become(new State(List.of(), List.of(), 0, 0, 0, 0, 0, 0));
        return before;
    }

    /** Plays a flick of the owner of the marble. */
    private static Outcome outcome(State s, int marble, int direction, int strength) {
        int player = s.balls.get(marble).owner;
        List<Ball> balls = new ArrayList<>(s.balls);
        Set<Integer> wasHit = new HashSet<>();
        int[] step = STEPS[direction].clone();
        int rolling = marble;
        int left = strength;
        int hits = 0;
        int walls = 0;
        while (left > 0 && hits < 60) {
            State at = withBalls(s, balls);
            Ball ball = balls.get(rolling);
            Point from = ball.point;
            if (!isPoint(from.x + step[0], from.y)) {
                step[0] *= -1;
                walls++;
            }
            if (!isPoint(from.x, from.y + step[1])) {
                step[1] *= -1;
                walls++;
            }
            Point to = new Point(from.x + step[0], from.y + step[1]);
            int met = lying(at, to);
            if (met != NONE) {
                left = Math.min(40, left * ball.size / balls.get(met).size);
                hits++;
                wasHit.add(met);
                rolling = met;
                continue;
            }
            Set<Integer> both = rings(s, from);
            both.retainAll(rings(s, to));
            Set<Integer> one = rings(s, from);
            one.addAll(rings(s, to));
            one.removeAll(both);
            left = Math.max(0, left - 1 - one.size());
            balls.set(rolling, new Ball(to, ball.size, ball.owner, -1));
        }
        Point rest = balls.get(rolling).point;
        List<Integer> won = new ArrayList<>();
        Set<Integer> growing = new HashSet<>();
        int sizes = 0;
        for (int i = 0; i < balls.size(); i++) {
            Ball ball = balls.get(i);
            boolean wasIn = ball.lies() && !rings(s, s.balls.get(i).point).isEmpty();
            if (wasHit.contains(i) && ball.owner != player && wasIn && rings(s, ball.point).isEmpty()) {
                won.add(i);
                sizes += ball.size;
                growing.addAll(rings(s, s.balls.get(i).point));
            }
        }
        for (int i : won) {
            Ball ball = balls.get(i);
            balls.set(i, new Ball(null, ball.size, ball.owner, player));
        }
        List<Chalk> chalks = new ArrayList<>(s.chalks);
        int grows = 0;
        for (int i : growing) {
            Chalk chalk = chalks.get(i);
            if (chalk.radius < 15) {
                chalks.set(i, new Chalk(chalk.centre, chalk.radius + 1));
                grows++;
            }
        }
        State after = new State(List.copyOf(balls), List.copyOf(chalks),
            won.isEmpty() ? (s.onMove + 1) % 3 : s.onMove, s.flicks + 1, s.hits + hits, s.wins + won.size(),
            s.grows + grows, s.walls + walls);
        return new Outcome(after, won, sizes, hits, rolling, rest);
    }

    int flick(int marble, int direction, int strength) {
        if (!isBall(marble)) {
            return NO_SUCH;
        }
        if (direction < 0 || direction > 7 || strength < 1 || strength > 40) {
            return BAD_VALUE;
        }
        if (!state.balls.get(marble).lies() || state.balls.get(marble).owner != state.onMove) {
            return NOT_POSSIBLE;
        }
        Outcome outcome = outcome(state, marble, direction, strength);
        become(outcome.after);
        return outcome.won.size();
    }

    int pass() {
        State s = state;
        become(new State(s.balls, s.chalks, (s.onMove + 1) % 3, s.flicks, s.hits, s.wins, s.grows, s.walls));
        return state.onMove;
    }

    int count(int what) {
        int[] all = {state.balls.size(), state.chalks.size(), state.onMove, state.flicks, state.hits, state.wins,
            state.grows, state.walls};
        return what < 0 || what >= all.length ? BAD_VALUE : all[what];
    }

    int marble(int marble, int what) {
        if (!isBall(marble)) {
            return NO_SUCH;
        }
        if (what < 0 || what > 5) {
            return BAD_VALUE;
        }
        Ball ball = state.balls.get(marble);
        if (ball.lies()) {
            int[] all = {ball.point.x, ball.point.y, ball.size, ball.owner, NONE, mask(rings(state, ball.point))};
            return all[what];
        }
        int[] all = {NONE, NONE, ball.size, ball.owner, ball.winner, NONE};
        return all[what];
    }

    int ring(int ring, int what) {
        if (ring < 0 || ring >= state.chalks.size()) {
            return NO_SUCH;
        }
        if (what < 0 || what > 4) {
            return BAD_VALUE;
        }
        Chalk chalk = state.chalks.get(ring);
        int points = 0;
        for (int place = 0; place < 31 * 31; place++) {
            points += chalk.holds(new Point(place % 31, place / 31)) ? 1 : 0;
        }
        Set<Integer> inside = new HashSet<>();
        for (int i = 0; i < state.balls.size(); i++) {
            if (state.balls.get(i).lies() && chalk.holds(state.balls.get(i).point)) {
                inside.add(i);
            }
        }
        int[] all = {chalk.centre.x, chalk.centre.y, chalk.radius, mask(inside), points};
        return all[what];
    }

    int at(int x, int y) {
        return isPoint(x, y) ? lying(state, new Point(x, y)) : NO_SUCH;
    }

    int score(int player) {
        if (player < 0 || player > 2) {
            return NO_SUCH;
        }
        return state.balls.stream().filter(b -> b.winner == player).mapToInt(Ball::size).sum()
            - state.balls.stream().filter(b -> b.winner >= 0 && b.owner == player).mapToInt(Ball::size).sum();
    }

    int leader() {
        int[] scores = {score(0), score(1), score(2)};
        int most = Arrays.stream(scores).max().getAsInt();
        return scores[0] == most ? 0 : scores[1] == most ? 1 : 2;
    }

    int ifFlicked(int marble, int direction, int strength, int what) {
        if (!isBall(marble)) {
            return NO_SUCH;
        }
        if (direction < 0 || direction > 7 || strength < 1 || strength > 40 || what < 0 || what > 4) {
            return BAD_VALUE;
        }
        if (!state.balls.get(marble).lies()) {
            return NOT_POSSIBLE;
        }
        Outcome o = outcome(state, marble, direction, strength);
        int[] all = {o.won.size(), o.sizes, o.hits, o.last, 100 * o.rest.x + o.rest.y};
        return all[what];
    }

    int bestFlick(int marble) {
        if (!isBall(marble)) {
            return NO_SUCH;
        }
        if (!state.balls.get(marble).lies()) {
            return NOT_POSSIBLE;
        }
        int best = NONE;
        int bestSum = 0;
        // From the worst to the best by strength and direction, so that a later one of the same sum is better.
        for (int direction = 7; direction >= 0; direction--) {
            for (int strength = 40; strength >= 1; strength--) {
                int sum = outcome(state, marble, direction, strength).sizes;
                boolean better = sum > bestSum || sum == bestSum && sum > 0 && strength <= best % 100;
                if (better) {
                    best = 100 * direction + strength;
                    bestSum = sum;
                }
            }
        }
        return best;
    }

    int wayOut(int marble) {
        if (!isBall(marble)) {
            return NO_SUCH;
        }
        Ball ball = state.balls.get(marble);
        if (!ball.lies()) {
            return NOT_POSSIBLE;
        }
        int least = NONE;
        for (int[] step : STEPS) {
            Point point = ball.point;
            int steps = 0;
            while (isPoint(point.x, point.y) && !rings(state, point).isEmpty()) {
                point = new Point(point.x + step[0], point.y + step[1]);
                steps++;
            }
            if (isPoint(point.x, point.y) && (least == NONE || steps < least)) {
                least = steps;
            }
        }
        return least;
    }

    int type(int code) {
        if (code <= 32 || code >= 127) {
            return BAD_VALUE;
        }
        if (text.length() == 80) {
            return LIMIT;
        }
        text += (char) code;
        return text.length();
    }

    int clearText() {
        int before = text.length();
        text = "";
        return before;
    }

    int syntaxError() {
        if (TEXT.matcher(text).matches()) {
            return NONE;
        }
        for (int end = 1; end <= text.length(); end++) {
            Matcher matcher = TEXT.matcher(text.substring(0, end));
            if (!matcher.matches() && !matcher.hitEnd()) {
                return end - 1;
            }
        }
        return text.length();
    }

    int readItems() {
        if (!TEXT.matcher(text).matches()) {
            return BAD_TEXT;
        }
        State now = state;
        int done = 0;
        for (String item : text.split(";")) {
            String[] parts = item.substring(1).split("[,sp:]");
            int[] n = Arrays.stream(parts).mapToInt(Integer::parseInt).toArray();
            State[] after = new State[1];
            int answer = item.startsWith("m") ? put(now, n[0], n[1], n[2], n[3], after)
                : draw(now, n[0], n[1], n[2], after);
            if (answer < 0) {
                break;
            }
            now = after[0];
            done++;
        }
        become(now);
        text = "";
        return done;
    }

    int undo() {
        if (saved.isEmpty()) {
            return NOT_POSSIBLE;
        }
        state = saved.removeLast();
        return saved.size();
    }

    long digest() {
        List<Integer> list = new ArrayList<>();
        for (int i = 0; i < 8; i++) {
            list.add(count(i));
        }
        for (int i = 0; i < state.balls.size(); i++) {
            for (int j = 0; j < 6; j++) {
                list.add(marble(i, j));
            }
        }
        for (int i = 0; i < state.chalks.size(); i++) {
            for (int j = 0; j < 5; j++) {
                list.add(ring(i, j));
            }
        }
        list.addAll(List.of(score(0), score(1), score(2), leader()));
        for (int i = 0; i < state.balls.size(); i++) {
            list.add(wayOut(i));
        }
        long hash = 4;
        for (int v : list) {
            hash = 31 * hash + v;
        }
        return hash;
    }
}
