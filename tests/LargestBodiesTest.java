import java.util.Arrays;

/**
 * Bodies with the most shapes: three parts, a joint that bends, one that wags by 30. SOON from
 * every turn, SAVED and WORTH by a plain search of all states; some rows as PlainCat has them.
 */
public final class LargestBodiesTest {
    private static final int MOST_STEPS = 12;
    private static final int NONE = -4;
    private static final Checks C = new Checks();

    /** A body as it is told, and whether and how its joints move. */
    private record Body(int[][] loads, int[] steps, boolean[] wags, int l, int e) {
        int parts() {
            return loads.length;
        }

        String text() {
            StringBuilder text = new StringBuilder();
            for (int[] part : loads) {
                text.append("p").append(part[0]).append(",").append(part[1]).append(",").append(part[2]).append(";");
            }
            for (int j = 0; j < steps.length; j++) {
                text.append(wags[j] ? "w" : "j").append(steps[j]).append(";");
            }
            return text.append("l").append(l).append(";e").append(e).append(";").toString();
        }
    }

    public static void main(String[] args) {
        int[][] loads = {{9, 20, 31}, {7, 15, 40}, {3, 16, 29}};
        int[][] light = {{1, 1, 1}, {1, 1, 1}, {1, 1, 1}};
        int[][] heavy = {{99, 99, 98}, {1, 1, 2}, {1, 1, 1}};
        boolean[] first = {true, false};
        boolean[] second = {false, true};
        boolean[] neither = {false, false};
        all(new Body(loads, new int[] {30, 7}, first, 0, 0));
        all(new Body(loads, new int[] {7, 30}, second, 0, 0));
        all(new Body(loads, new int[] {1, 30}, second, 77, 0));
        all(new Body(loads, new int[] {90, 30}, second, -99, 1));
        all(new Body(light, new int[] {90, 30}, second, 0, 0));
        all(new Body(heavy, new int[] {1, 30}, second, 0, 0));
        all(new Body(heavy, new int[] {30, 1}, first, 0, 0));
        all(new Body(heavy, new int[] {90, 36}, second, 0, 0));
        all(new Body(heavy, new int[] {89, 90}, neither, 0, 0));
        all(new Body(new int[][] {{99, 99, 98}, {1, 1, 2}}, new int[] {30}, new boolean[] {true}, 0, 0));
        all(new Body(new int[][] {{9, 20, 31}, {7, 15, 40}}, new int[] {30}, new boolean[] {true}, 36, 0));
        all(new Body(new int[][] {{9, 20, 31}, {7, 15, 40}}, new int[] {11}, new boolean[] {false}, 36, 0));
        rows("p1,14,20;p6,14,5;w45;e0;", 1);
        rows("p9,11,19;p16,18,18;w120;e0;", 176);
        rows("p99,99,98;p1,1,2;p1,1,1;j2;w30;e0;", 3);
        rows("p9,20,31;p7,15,40;p3,16,29;j7;w30;e0;", 157);
        C.end();
    }

    private static void all(Body body) {
        int[] ticks = ticksOf(body, -1);
        String text = body.text();
        CatThatTurns cat = Checks.laid(text);
        int far = 0;
        for (int turn = 0; turn < 360; turn++) {
            C.due("soon(" + turn + ", -1) of " + text, cat.soon(turn, -1), ticks[turn]);
            far = ticks[turn] > ticks[far] ? turn : far;
        }
        CatThatTurns other = Checks.laid(text);
        for (int t = 20; t >= 0; t -= 5) {
            int want = 0;
            for (int turn = 0; turn < 360; turn++) {
                want += ticks[turn] >= 0 && ticks[turn] <= t ? 1 : 0;
            }
            C.due("saved of " + t + " ticks of " + text, other.saved(t * t), want);
        }
        C.due("saved of all of " + text, other.saved(100000), (int) Arrays.stream(ticks).filter(t -> t >= 0).count());
        for (int joint = 0; joint < body.steps.length; joint++) {
            int[] without = ticksOf(body, joint);
            for (int turn = 1; turn < 360; turn += 3) {
                boolean isNone = ticks[turn] < 0 || without[turn] < 0;
                C.due("worth(" + joint + ", " + turn + ") of " + text, other.worth(joint, turn),
                        isNone ? NONE : without[turn] - ticks[turn]);
            }
        }
        aRowThatComesRight(body, far, ticks[far]);
    }

    /** The longest row: its moves, made by the way it goes, end straight and right. */
    private static void aRowThatComesRight(Body body, int turn, int ticks) {
        CatThatTurns cat = Checks.laid(body.text());
        for (int i = 0; i < ticks && i < 60; i++) {
            cat.move(0, cat.soon(turn, i));
        }
        if (ticks >= 0 && ticks <= 60) {
            C.due("all of the row of " + body.text(), cat.run(0, 0), ticks);
            C.due("the row is straight of " + body.text(), cat.run(0, 3), 1);
            C.due("the row is right of " + body.text(), cat.head(turn, 0), 0);
        }
    }

    private static void rows(String text, int turn) {
        CatThatTurns cat = Checks.laid(text);
        PlainCat plain = new PlainCat();
        plain.text.append(text);
        plain.lay();
        for (int i = -1; i <= plain.soon(turn, -1); i++) {
            C.due("soon(" + turn + ", " + i + ") of " + text, cat.soon(turn, i), plain.soon(turn, i));
        }
    }

    /** The fewest ticks from each turn, by all states that come of rest and turn 0. */
    private static int[] ticksOf(Body body, int stiff) {
        int[] ticks = new int[360];
        Arrays.fill(ticks, NONE);
        boolean[] seen = new boolean[MOST_STEPS * MOST_STEPS * 27 * 360];
        int[] row = new int[seen.length];
        int start = code(new int[] {1, 1, 1}, new int[] {0, 0}, 0);
        seen[start] = true;
        row[0] = start;
        int last = 1;
        int at = 0;
        for (int tick = 0; tick <= 200 && at < last; tick++) {
            int end = last;
            for (; at < end; at++) {
                note(body, row[at], tick, ticks);
                for (int move = 0; move <= 18; move++) {
                    int next = after(body, stiff, row[at], move);
                    if (next >= 0 && !seen[next]) {
                        seen[next] = true;
                        row[last] = next;
                        last++;
                    }
                }
            }
        }
        return ticks;
    }

    /** Steps of the joints are 0 to 11. */
    private static int code(int[] poses, int[] steps, int turn) {
        int code = steps[0] * MOST_STEPS + steps[1];
        for (int pose : poses) {
            code = code * 3 + pose;
        }
        return code * 360 + turn;
    }

    private static void note(Body body, int code, int tick, int[] ticks) {
        if (code / 360 / 27 != 0) {
            return;
        }
        int turned = code % 360;
        for (int off = -body.e; off <= body.e; off++) {
            int turn = Math.floorMod(off - turned, 360);
            ticks[turn] = ticks[turn] == NONE ? tick : ticks[turn];
        }
    }

    private static int after(Body body, int stiff, int code, int move) {
        int rest = code / 360;
        int[] poses = {rest / 9 % 3, rest / 3 % 3, rest % 3};
        int[] steps = {rest / 27 / MOST_STEPS, rest / 27 % MOST_STEPS};
        int joint = 0;
        int degrees = 0;
        if (move >= 10) {
            int part = (move - 10) / 3;
            int pose = (move - 10) % 3;
            if (part >= body.parts() || poses[part] == pose) {
                return -1;
            }
            poses[part] = pose;
        } else if (move > 0) {
            joint = (move - 1) / 2;
            if (joint >= body.steps.length || joint == stiff) {
                return -1;
            }
            int by = move % 2 == 1 ? 1 : -1;
            int round = body.wags[joint] ? 360 / body.steps[joint] : MOST_STEPS;
            steps[joint] = (steps[joint] + by + round) % round;
            // Of a joint that bends 10 and 11 stand for 2 and 1 less than 0.
            if (!body.wags[joint] && steps[joint] > 2 && steps[joint] < 10) {
                return -1;
            }
            degrees = by * body.steps[joint];
        }
        int all = 0;
        int behind = 0;
        for (int part = 0; part < body.parts(); part++) {
            all += body.loads[part][poses[part]];
            behind += part > joint ? body.loads[part][poses[part]] : 0;
        }
        int turn = code % 360 - degrees * behind / all + body.l / all;
        return code(poses, steps, Math.floorMod(turn, 360));
    }
}
