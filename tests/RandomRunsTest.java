import java.nio.charset.StandardCharsets;
import java.util.Random;

/**
 * Rows of calls by chance (always the same ones), on the program and on PlainCat. With a number it
 * makes so many runs instead of those of .ci/run; with a second, from that seed.
 */
public final class RandomRunsTest {
    private static Random dice;
    private static int wrong = 0;
    private static int calls = 0;
    private static StringBuilder told;
    private static CatThatTurns cat;
    private static PlainCat plain;

    public static void main(String[] args) {
        int runs = args.length > 0 ? Integer.parseInt(args[0]) : 24;
        long seed = args.length > 1 ? Long.parseLong(args[1]) : 1;
        for (int run = 0; run < runs && wrong == 0; run++) {
            dice = new Random(seed * 1000003 + run);
            cat = new CatThatTurns();
            plain = new PlainCat();
            told = new StringBuilder();
            calls = 0;
            oneRun(run % 8 == 0 ? 3 : 2, run % 4 < 2);
        }
        System.out.println(wrong == 0 ? "all answers are as PlainCat's" : wrong + " answers are not as PlainCat's");
        System.exit(wrong == 0 ? 0 : 1);
    }

    private static void due(String call, int got, int want) {
        calls++;
        told.append(call).append('\n');
        if (got != want && wrong == 0) {
            System.out.println(told + " answered " + got + ", PlainCat says " + want + "; laid text ahead: " + plain.text);
            wrong++;
        }
    }

    private static int upTo(int most) {
        return dice.nextInt(most + 1);
    }

    private static void oneRun(int mostParts, boolean many) {
        cheap(20);
        while (calls < 440 && wrong == 0) {
            if (upTo(2) > 0) {
                text(mostParts, upTo(9) == 0);
                due("fault()", cat.fault(), plain.fault());
                due("lay()", cat.lay(), plain.lay());
            }
            if (upTo(3) == 0) {
                closingWay(upTo(3));
            }
            cheap(20 + upTo(60));
            dear(many ? 8 : 2);
        }
    }

    private static void text(int mostParts, boolean broken) {
        due("wipe()", cat.wipe(), plain.wipe());
        StringBuilder t = new StringBuilder();
        int parts = mostParts == 3 ? 2 + upTo(1) : 2;
        int wag = upTo(3);
        int[] range = {1, 3, 20, 99};
        int most = range[upTo(3)];
        for (int i = 0; i < parts; i++) {
            t.append("p").append(1 + dice.nextInt(most)).append(",").append(1 + dice.nextInt(most)).append(",")
                    .append(1 + dice.nextInt(most)).append(";");
        }
        for (int i = 0; i < parts - 1; i++) {
            int[] wags = {30, 36, 40, 45, 60, 72, 90, 120};
            if (i == wag) {
                t.append("w").append(wags[upTo(7)]).append(";");
            } else {
                t.append("j").append(1 + upTo(89)).append(";");
            }
        }
        if (upTo(1) == 0) {
            int[] pushes = {9, 50, 500, 9999};
            int l = pushes[upTo(3)];
            t.append("l").append(upTo(2 * l) - l).append(";");
        }
        if (upTo(2) > 0) {
            int[] rights = {0, 3, 20, 90};
            t.append("e").append(upTo(rights[upTo(3)])).append(";");
        }
        if (broken) {
            String signs = "pjwle0123456789,;;--  a\u00e9\0";
            for (int i = upTo(2); i >= 0; i--) {
                char sign = signs.charAt(upTo(signs.length() - 1));
                int at = upTo(t.length() - 1);
                if (upTo(1) == 0) {
                    t.setCharAt(at, sign);
                } else {
                    t.insert(at, sign);
                }
            }
        }
        byte[] bytes = t.toString().getBytes(StandardCharsets.ISO_8859_1);
        int at = 0;
        while (at < bytes.length) {
            int n = Math.min(8, bytes.length - at);
            long v = dice.nextInt(3) == 0 ? dice.nextLong() : 0;
            for (int i = 0; i < n; i++) {
                v = v << 8 | bytes[at + i] & 255;
            }
            due("write(" + n + ", " + v + ")", cat.write(n, v), plain.write(n, v));
            at += n;
        }
    }

    /** There and back, with poses between, so that some ways close. */
    private static void closingWay(int way) {
        due("noWay(" + way + ")", cat.noWay(way), plain.noWay(way));
        int[][] ways = {{1, 2}, {15, 1, 14, 2}, {10, 1, 11, 12, 2, 11}, {0, 0}, {1, 1, 1, 1, 1, 1},
            {1, 1, 1, 1, 1, 1, 1, 1}, {15, 1, 14, 12, 2, 11}, {2, 10, 1, 11}, {4, 16, 3, 17}, {1, 3, 2, 4}};
        for (int move : ways[upTo(ways.length - 1)]) {
            due("move(" + way + ", " + move + ")", cat.move(way, move), plain.move(way, move));
        }
    }

    private static int most(int usual) {
        return upTo(40) == 0 ? (upTo(1) == 0 ? -1 - upTo(3) : usual + 1 + upTo(1)) : upTo(usual);
    }

    private static int aMove() {
        return upTo(3) == 0 ? most(18) : upTo(1) == 0 ? upTo(4) : 10 + upTo(8);
    }

    private static void cheap(int many) {
        for (int i = 0; i < many && wrong == 0 && calls < 510; i++) {
            int way = most(3);
            int turn = most(359);
            int parts = plain.body.parts.size();
            switch (upTo(24)) {
                case 0: case 1: case 2: case 3: case 4: {
                    int move = aMove();
                    due("move(" + way + ", " + move + ")", cat.move(way, move), plain.move(way, move));
                    break;
                }
                case 5: {
                    if (upTo(3) == 0) {
                        due("noWay(" + way + ")", cat.noWay(way), plain.noWay(way));
                    }
                    break;
                }
                case 6: case 7: {
                    int t = upTo(1) == 0 ? most(60) : upTo(5);
                    int part = most(parts - 1);
                    due("turn(" + way + ", " + turn + ", " + t + ", " + part + ")",
                            cat.turn(way, turn, t, part), plain.turn(way, turn, t, part));
                    break;
                }
                case 8: case 9: {
                    int what = most(3);
                    due("run(" + way + ", " + what + ")", cat.run(way, what), plain.run(way, what));
                    break;
                }
                case 10:
                    due("spun(" + way + ")", cat.spun(way), plain.spun(way));
                    break;
                case 11: {
                    int n = upTo(20) == 0 ? (upTo(1) == 0 ? 0 : 1001) : upTo(1) == 0 ? most(999) + 1 : 1 + upTo(4);
                    due("times(" + way + ", " + n + ")", cat.times(way, n), plain.times(way, n));
                    break;
                }
                case 12: {
                    int h = upTo(1) == 0 ? most(100000) : upTo(1000);
                    due("fall(" + h + ")", cat.fall(h), plain.fall(h));
                    break;
                }
                case 13: case 14: {
                    int tick = upTo(1) == 0 ? upTo(3) : most(60);
                    int part = most(parts - 1);
                    int doubt = upTo(2) == 0 ? most(90) : 60 + upTo(30);
                    due("picture(" + tick + ", " + part + ", " + turn + ", " + doubt + ")",
                            cat.picture(tick, part, turn, doubt), plain.picture(tick, part, turn, doubt));
                    break;
                }
                case 15:
                    if (upTo(1) == 0) {
                        due("noFilm()", cat.noFilm(), plain.noFilm());
                    }
                    break;
                case 16:
                    due("may(" + way + ", " + turn + ")", cat.may(way, turn), plain.may(way, turn));
                    break;
                case 17: {
                    int what = most(1);
                    due("looked(" + way + ", " + what + ")", cat.looked(way, what), plain.looked(way, what));
                    break;
                }
                case 18: {
                    int m = most(200);
                    int what = most(1);
                    due("pushed(" + way + ", " + turn + ", " + m + ", " + what + ")",
                            cat.pushed(way, turn, m, what), plain.pushed(way, turn, m, what));
                    break;
                }
                case 19: {
                    int n = most(60);
                    due("head(" + turn + ", " + n + ")", cat.head(turn, n), plain.head(turn, n));
                    break;
                }
                case 20: {
                    int n = most(60);
                    due("down(" + n + ")", cat.down(n), plain.down(n));
                    break;
                }
                case 21:
                    if (upTo(1) == 0) {
                        due("keep()", cat.keep(), plain.keep());
                    } else {
                        due("back()", cat.back(), plain.back());
                    }
                    break;
                case 22: {
                    int what = most(4);
                    due("count(" + what + ")", cat.count(what), plain.count(what));
                    break;
                }
                case 23: {
                    int part = most(parts - 1);
                    int pose = most(2);
                    due("load(" + part + ", " + pose + ")", cat.load(part, pose), plain.load(part, pose));
                    int what = most(1);
                    int joint = most(parts - 2);
                    due("joint(" + joint + ", " + what + ")", cat.joint(joint, what), plain.joint(joint, what));
                    break;
                }
                default: {
                    int what = most(1);
                    due("begun(" + what + ")", cat.begun(what), plain.begun(what));
                    break;
                }
            }
        }
    }

    private static void dear(int many) {
        int joints = plain.body.degrees.size();
        for (int i = 0; i < many && wrong == 0 && calls < 475; i++) {
            int turn = most(359);
            switch (upTo(7)) {
                case 0: case 1: case 2: {
                    due("soon(" + turn + ", -1)", cat.soon(turn, -1), plain.soon(turn, -1));
                    int row = Math.max(0, plain.soon(turn, -1));
                    for (int k = 0; k <= row && k < 30; k++) {
                        due("soon(" + turn + ", " + k + ")", cat.soon(turn, k), plain.soon(turn, k));
                    }
                    break;
                }
                case 3: case 4: {
                    int joint = most(joints - 1);
                    due("worth(" + joint + ", " + turn + ")", cat.worth(joint, turn), plain.worth(joint, turn));
                    break;
                }
                case 5: {
                    int set = most((1 << joints) - 1);
                    due("free(" + set + ")", cat.free(set), plain.free(set));
                    break;
                }
                case 6:
                    due("fewest()", cat.fewest(), plain.fewest());
                    break;
                default: {
                    if (joints == 1 && upTo(5) == 0) {
                        int h = upTo(2) > 0 ? upTo(100) : most(100000);
                        due("saved(" + h + ")", cat.saved(h), plain.saved(h));
                    }
                    break;
                }
            }
        }
    }
}
