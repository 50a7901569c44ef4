import java.util.ArrayList;
import java.util.HashMap;
import java.util.List;
import java.util.Map;

/** The document once more, in the plainest form: no tables, a search from each turn anew. */
final class PlainCat {
    static final int BAD = -1, NO = -2, FULL = -3, NONE = -4;

    /** A body that is laid. */
    static final class Laid {
        final List<int[]> parts = new ArrayList<>();
        final List<Integer> degrees = new ArrayList<>();
        final List<Boolean> wags = new ArrayList<>();
        int l = 0;
        int e = 10;
    }

    /** Poses, steps and the turn of part 0. */
    static final class State {
        final int[] poses;
        final int[] steps;
        int turn;

        State(Laid b, int turn) {
            poses = new int[b.parts.size()];
            java.util.Arrays.fill(poses, 1);
            steps = new int[b.degrees.size()];
            this.turn = turn;
        }

        State(State s) {
            poses = s.poses.clone();
            steps = s.steps.clone();
            turn = s.turn;
        }

        boolean straight() {
            for (int s : steps) {
                if (s != 0) {
                    return false;
                }
            }
            return true;
        }

        boolean rest() {
            for (int p : poses) {
                if (p != 1) {
                    return false;
                }
            }
            return straight();
        }
    }

    StringBuilder text = new StringBuilder();
    Laid body;
    List<List<Integer>> ways = emptyWays();
    List<int[]> film = new ArrayList<>();
    List<Object[]> kept = new ArrayList<>();
    final Map<String, List<Integer>> found = new HashMap<>();

    PlainCat() {
        text.append("p1,1,1;p1,1,1;j10;");
        lay();
        text.setLength(0);
    }

    static List<List<Integer>> emptyWays() {
        List<List<Integer>> all = new ArrayList<>();
        for (int i = 0; i < 4; i++) {
            all.add(new ArrayList<>());
        }
        return all;
    }

    // ---- bodies

    int write(int n, long v) {
        if (n < 1 || n > 8) {
            return BAD;
        }
        if (text.length() + n > 120) {
            return FULL;
        }
        for (int i = n - 1; i >= 0; i--) {
            text.append((char) (v >> 8 * i & 0xff));
        }
        return text.length();
    }

    int wipe() {
        int n = text.length();
        text.setLength(0);
        return n;
    }

    /** Reads the text into a body; the place of the fault or NONE. */
    int read(Laid b) {
        int at = 0;
        while (at < text.length()) {
            int end = text.indexOf(";", at);
            if (end < 0 || !item(b, text.substring(at, end))) {
                return at;
            }
            at = end + 1;
        }
        return NONE;
    }

    private static boolean item(Laid b, String item) {
        if (!item.matches("(?s)[a-z]-?[0-9]{1,4}(,-?[0-9]{1,4})*") || item.matches("(?s).*-0+(,.*|)")) {
            return false;
        }
        String[] told = item.substring(1).split(",");
        int[] numbers = new int[told.length];
        for (int i = 0; i < told.length; i++) {
            numbers[i] = Integer.parseInt(told[i]);
        }
        int x = numbers[0];
        if (item.charAt(0) == 'p') {
            for (int n : numbers) {
                if (n < 1 || n > 99) {
                    return false;
                }
            }
            b.parts.add(numbers);
            return numbers.length == 3 && b.parts.size() <= 3;
        }
        if (numbers.length != 1) {
            return false;
        }
        switch (item.charAt(0)) {
            case 'j':
                b.degrees.add(x);
                b.wags.add(false);
                return x >= 1 && x <= 90 && b.degrees.size() <= 2;
            case 'w':
                boolean told8 = List.of(30, 36, 40, 45, 60, 72, 90, 120).contains(x);
                boolean second = b.wags.contains(true);
                b.degrees.add(x);
                b.wags.add(true);
                return told8 && !second && b.degrees.size() <= 2;
            case 'l':
                b.l = x;
                return true;
            case 'e':
                b.e = x;
                return x >= 0 && x <= 90;
            default:
                return false;
        }
    }

    int fault() {
        return read(new Laid());
    }

    int lay() {
        Laid b = new Laid();
        if (read(b) != NONE || b.parts.size() < 2 || b.degrees.size() != b.parts.size() - 1) {
            return NO;
        }
        body = b;
        ways = emptyWays();
        film = new ArrayList<>();
        kept.clear();
        found.clear();
        return b.parts.size();
    }

    private boolean part(int p) {
        return p >= 0 && p < body.parts.size();
    }

    private boolean jointIs(int j) {
        return j >= 0 && j < body.degrees.size();
    }

    static boolean in(int x, int a, int b) {
        return a <= x && x <= b;
    }

    int load(int p, int pose) {
        return part(p) && in(pose, 0, 2) ? body.parts.get(p)[pose] : BAD;
    }

    int joint(int j, int what) {
        if (!jointIs(j) || !in(what, 0, 1)) {
            return BAD;
        }
        return what == 0 ? body.degrees.get(j) : body.wags.get(j) ? 1 : 0;
    }

    int begun(int what) {
        return what == 0 ? body.l : what == 1 ? body.e : -10000;
    }

    // ---- moves

    /** The state behind a move; null if it fails. A stiff joint does not move. */
    State after(State s, int move, int l, int stiff) {
        State n = new State(s);
        int d = 0;
        int joint = 0;
        if (move >= 10) {
            int k = (move - 10) / 3;
            int p = (move - 10) % 3;
            if (!part(k) || s.poses[k] == p) {
                return null;
            }
            n.poses[k] = p;
        } else if (move > 0) {
            joint = (move - 1) / 2;
            if (!jointIs(joint) || joint == stiff) {
                return null;
            }
            int by = move == 1 + 2 * joint ? 1 : -1;
            d = by * body.degrees.get(joint);
            int step = s.steps[joint] + by;
            if (body.wags.get(joint)) {
                int round = 360 / body.degrees.get(joint);
                step = (step + round) % round;
            } else if (step < -2 || step > 2) {
                return null;
            }
            n.steps[joint] = step;
        }
        int all = 0;
        int behind = 0;
        for (int k = 0; k < body.parts.size(); k++) {
            all += body.parts.get(k)[n.poses[k]];
            if (k > joint) {
                behind += body.parts.get(k)[n.poses[k]];
            }
        }
        n.turn = s.turn - d * behind / all + l / all;
        n.turn = (n.turn % 360 + 360) % 360;
        return n;
    }

    int partTurn(State s, int p) {
        int turn = s.turn;
        for (int j = 0; j < p; j++) {
            turn += body.degrees.get(j) * s.steps[j];
        }
        return (turn % 360 + 360) % 360;
    }

    /** All states of a run, the first at rest; shorter than the way by one at least if a move fails. */
    List<State> runOf(int way, int turn, int l, int late) {
        List<State> all = new ArrayList<>();
        State s = new State(body, turn);
        for (int i = 0; i < late; i++) {
            s = after(s, 0, l, -1);
        }
        all.add(s);
        for (int move : ways.get(way)) {
            s = after(s, move, l, -1);
            if (s == null) {
                break;
            }
            all.add(s);
        }
        return all;
    }

    State endOf(int way, int turn, int l) {
        List<State> all = runOf(way, turn, l, 0);
        return all.get(all.size() - 1);
    }

    static int off(int a, int b) {
        int x = Math.abs(a - b) % 360;
        return Math.min(x, 360 - x);
    }

    int move(int way, int move) {
        if (!in(way, 0, 3) || !in(move, 0, 18)) {
            return BAD;
        }
        if (ways.get(way).size() == 60) {
            return FULL;
        }
        ways.get(way).add(move);
        return ways.get(way).size();
    }

    int noWay(int way) {
        if (!in(way, 0, 3)) {
            return BAD;
        }
        int n = ways.get(way).size();
        ways.get(way).clear();
        return n;
    }

    int turn(int way, int turn, int t, int p) {
        if (!in(way, 0, 3) || !in(turn, 0, 359) || !in(t, 0, 60) || !part(p)) {
            return BAD;
        }
        List<State> all = runOf(way, turn, body.l, 0);
        return t < all.size() ? partTurn(all.get(t), p) : NONE;
    }

    private boolean allDone(int way) {
        return runOf(way, 0, body.l, 0).size() == ways.get(way).size() + 1;
    }

    private boolean closes(int way) {
        return allDone(way) && endOf(way, 0, body.l).rest();
    }

    int run(int way, int what) {
        if (!in(way, 0, 3) || !in(what, 0, 3)) {
            return BAD;
        }
        switch (what) {
            case 0:
                return runOf(way, 0, body.l, 0).size() - 1;
            case 1:
                return allDone(way) ? 1 : 0;
            case 2:
                return closes(way) ? 1 : 0;
            default:
                return endOf(way, 0, body.l).straight() ? 1 : 0;
        }
    }

    int spun(int way) {
        return in(way, 0, 3) ? endOf(way, 0, body.l).turn : BAD;
    }

    int times(int way, int n) {
        if (!in(way, 0, 3) || !in(n, 1, 1000)) {
            return BAD;
        }
        if (!closes(way)) {
            return NO;
        }
        int turn = 0;
        for (int i = 0; i < n; i++) {
            turn = endOf(way, turn, body.l).turn;
        }
        return turn;
    }

    // ---- soon

    private int code(State s) {
        int c = 0;
        for (int j = 0; j < s.steps.length; j++) {
            c = c * 12 + (body.wags.get(j) ? s.steps[j] : s.steps[j] + 2);
        }
        for (int p : s.poses) {
            c = c * 3 + p;
        }
        return c * 360 + s.turn;
    }

    /** The first of the shortest rows by which it comes right from a turn; null if there is none. */
    List<Integer> soonRow(int turn, int stiff) {
        String key = turn + " " + stiff;
        if (!found.containsKey(key)) {
            found.put(key, searchRow(turn, stiff));
        }
        return found.get(key);
    }

    private List<Integer> searchRow(int turn, int stiff) {
        Map<Integer, Integer> level = new HashMap<>();
        List<List<State>> levels = new ArrayList<>();
        List<State> now = new ArrayList<>();
        State start = new State(body, turn);
        level.put(code(start), 0);
        now.add(start);
        java.util.Set<Integer> good = new java.util.HashSet<>();
        int ticks = 0;
        while (true) {
            levels.add(now);
            for (State s : now) {
                if (s.straight() && off(s.turn, 0) <= body.e) {
                    good.add(code(s));
                }
            }
            if (!good.isEmpty()) {
                break;
            }
            if (ticks == 200 || now.isEmpty()) {
                return null;
            }
            List<State> next = new ArrayList<>();
            for (State s : now) {
                for (int move = 18; move >= 0; move--) {
                    State n = after(s, move, body.l, stiff);
                    if (n != null && level.putIfAbsent(code(n), ticks + 1) == null) {
                        next.add(n);
                    }
                }
            }
            now = next;
            ticks++;
        }
        // Backwards: which states lie on a shortest row; then forwards by the lowest moves.
        for (int t = ticks - 1; t >= 0; t--) {
            for (State s : levels.get(t)) {
                for (int move = 0; move <= 18; move++) {
                    State n = after(s, move, body.l, stiff);
                    if (n != null && good.contains(code(n)) && level.get(code(n)) == t + 1) {
                        good.add(code(s));
                        break;
                    }
                }
            }
        }
        List<Integer> row = new ArrayList<>();
        State s = start;
        for (int t = 0; t < ticks; t++) {
            for (int move = 0; move <= 18; move++) {
                State n = after(s, move, body.l, stiff);
                if (n != null && good.contains(code(n)) && level.get(code(n)) == t + 1) {
                    row.add(move);
                    s = n;
                    break;
                }
            }
        }
        return row;
    }

    int soon(int turn, int i) {
        if (!in(turn, 0, 359) || i < -1) {
            return BAD;
        }
        List<Integer> row = soonRow(turn, -1);
        if (row == null || i >= row.size()) {
            return NONE;
        }
        return i < 0 ? row.size() : row.get(i);
    }

    int fall(int h) {
        if (!in(h, 0, 100000)) {
            return BAD;
        }
        int t = 400;
        while (t * t > h) {
            t--;
        }
        return t;
    }

    int saved(int h) {
        if (!in(h, 0, 100000)) {
            return BAD;
        }
        int n = 0;
        for (int turn = 0; turn < 360; turn++) {
            List<Integer> row = soonRow(turn, -1);
            if (row != null && row.size() <= fall(h)) {
                n++;
            }
        }
        return n;
    }

    int free(int joints) {
        if (!in(joints, 0, (1 << body.degrees.size()) - 1)) {
            return BAD;
        }
        java.util.Set<Integer> seen = new java.util.HashSet<>();
        java.util.ArrayDeque<State> row = new java.util.ArrayDeque<>();
        State start = new State(body, 0);
        seen.add(code(start));
        row.add(start);
        int n = 0;
        while (!row.isEmpty()) {
            State s = row.remove();
            if (s.rest()) {
                n++;
            }
            for (int move = 0; move <= 18; move++) {
                if (move >= 1 && move <= 9 && (joints >> (move - 1) / 2 & 1) == 0) {
                    continue;
                }
                State next = after(s, move, 0, -1);
                if (next != null && seen.add(code(next))) {
                    row.add(next);
                }
            }
        }
        return n;
    }

    int fewest() {
        for (int many = 0; many <= body.degrees.size(); many++) {
            for (int joints = 0; joints < 1 << body.degrees.size(); joints++) {
                if (Integer.bitCount(joints) == many && free(joints) > 1) {
                    return joints;
                }
            }
        }
        return NONE;
    }

    int worth(int joint, int turn) {
        if (!jointIs(joint) || !in(turn, 0, 359)) {
            return BAD;
        }
        List<Integer> with = soonRow(turn, -1);
        List<Integer> without = soonRow(turn, joint);
        return with == null || without == null ? NONE : without.size() - with.size();
    }

    // ---- films, heads

    int picture(int tick, int p, int turn, int doubt) {
        if (!in(tick, 0, 60) || !part(p) || !in(turn, 0, 359) || !in(doubt, 0, 90)) {
            return BAD;
        }
        if (film.size() == 30) {
            return FULL;
        }
        film.add(new int[] {tick, p, turn, doubt});
        return film.size();
    }

    int noFilm() {
        int n = film.size();
        film = new ArrayList<>();
        return n;
    }

    private boolean mayBe(int way, int turn, int l) {
        List<State> all = runOf(way, turn, l, 0);
        for (int[] p : film) {
            if (p[0] >= all.size() || off(partTurn(all.get(p[0]), p[1]), p[2]) > p[3]) {
                return false;
            }
        }
        return true;
    }

    int may(int way, int turn) {
        if (!in(way, 0, 3) || !in(turn, 0, 359)) {
            return BAD;
        }
        return mayBe(way, turn, body.l) ? 1 : 0;
    }

    int looked(int way, int what) {
        if (!in(way, 0, 3) || !in(what, 0, 1)) {
            return BAD;
        }
        int n = 0;
        int first = NONE;
        for (int turn = 359; turn >= 0; turn--) {
            if (mayBe(way, turn, body.l)) {
                n++;
                first = turn;
            }
        }
        return what == 0 ? n : first;
    }

    int pushed(int way, int turn, int m, int what) {
        if (!in(way, 0, 3) || !in(turn, 0, 359) || !in(m, 0, 200) || !in(what, 0, 1)) {
            return -10001;
        }
        int n = 0;
        int nearest = -10004;
        for (int l = -m; l <= m; l++) {
            if (mayBe(way, turn, l)) {
                n++;
                if (nearest == -10004 || Math.abs(l) < Math.abs(nearest)) {
                    nearest = l;
                }
            }
        }
        return what == 0 ? n : nearest;
    }

    int head(int turn, int n) {
        if (!in(turn, 0, 359) || !in(n, 0, 60)) {
            return BAD;
        }
        for (int way = 0; way < 4; way++) {
            List<State> all = runOf(way, turn, body.l, n);
            State end = all.get(all.size() - 1);
            if (all.size() == ways.get(way).size() + 1 && end.straight() && off(end.turn, 0) <= body.e) {
                return way;
            }
        }
        return NONE;
    }

    int down(int n) {
        if (!in(n, 0, 60)) {
            return BAD;
        }
        int found = 0;
        for (int turn = 0; turn < 360; turn++) {
            if (head(turn, n) >= 0) {
                found++;
            }
        }
        return found;
    }

    int keep() {
        if (kept.size() == 2) {
            return FULL;
        }
        List<List<Integer>> copy = new ArrayList<>();
        for (List<Integer> way : ways) {
            copy.add(new ArrayList<>(way));
        }
        kept.add(new Object[] {copy, new ArrayList<>(film)});
        return kept.size();
    }

    @SuppressWarnings("unchecked")
    int back() {
        if (kept.isEmpty()) {
            return NO;
        }
        Object[] last = kept.remove(kept.size() - 1);
        ways = (List<List<Integer>>) last[0];
        film = (List<int[]>) last[1];
        return kept.size();
    }

    int count(int what) {
        switch (what) {
            case 0:
                return body.parts.size();
            case 1:
                return text.length();
            case 2:
                return ways.stream().mapToInt(List::size).sum();
            case 3:
                return film.size();
            case 4:
                return kept.size();
            default:
                return BAD;
        }
    }
}
