/** What moves do, runs, promises 9 to 14: each sentence that names an edge, by itself. */
public final class EdgesOfWaysTest {
    private static final int BAD = -1, NO = -2, FULL = -3, NONE = -4;
    private static final int[] FAR = {Integer.MIN_VALUE, -1000, -1, 1000, Integer.MAX_VALUE};
    private static final Checks C = new Checks();

    public static void main(String[] args) {
        twoStepsEitherWay();
        roundAndRound();
        turnsRoundTheCircle();
        laterPartsRoundTheCircle();
        noSuchThing();
        anotherPose();
        loadsBehindTheMove();
        cutTowardsZero();
        heaviestAndLightest();
        fourWays();
        sixtyMoves();
        emptyWays();
        tillOneFails();
        behindAsManyMoves();
        closes();
        spunRoundTheCircle();
        timesOneToThousand();
        timesThatDoNotClose();
        whatRunTells();
        C.end();
    }

    private static void row(CatThatTurns cat, int way, int move, int times) {
        for (int i = 0; i < times; i++) {
            cat.move(way, move);
        }
    }

    private static void done(String about, int want, int... moves) {
        CatThatTurns cat = Checks.laid(about);
        Checks.moves(cat, 0, moves);
        C.due("run(0, 0) of " + about, cat.run(0, 0), want);
        C.due("run(0, 1) of " + about, cat.run(0, 1), want == moves.length ? 1 : 0);
    }

    /** "a JOINT that BENDS by STEPS .., -2 to 2 of them"; it fails where it "would be beyond". */
    private static void twoStepsEitherWay() {
        String two = "p1,1,1;p1,1,1;j90;";
        String three = "p1,1,1;p1,1,1;p1,1,1;j1;j90;";
        done(two, 2, 1, 1);
        done(two, 2, 1, 1, 1);
        done(two, 2, 2, 2);
        done(two, 2, 2, 2, 2);
        done(two, 6, 1, 1, 2, 2, 2, 2);
        done(two, 6, 1, 1, 2, 2, 2, 2, 2);
        done(two, 6, 2, 2, 1, 1, 1, 1, 1);
        // Each joint for itself.
        done(three, 4, 1, 1, 3, 3);
        done(three, 4, 1, 1, 3, 3, 1);
        done(three, 4, 1, 1, 3, 3, 3);
        done(three, 4, 2, 2, 4, 4, 2);
        done(three, 4, 2, 2, 4, 4, 4);
        done("p1,1,1;p1,1,1;p1,1,1;w90;j90;", 7, 1, 1, 1, 1, 1, 3, 3, 3);
        done("p1,1,1;p1,1,1;p1,1,1;j90;w90;", 7, 4, 4, 4, 4, 4, 2, 2, 2);
    }

    /** "WAGS .. round and round: 0 to 360 by S less 1": beyond either end it goes on at the other. */
    private static void roundAndRound() {
        for (int s : new int[] {30, 36, 40, 45, 60, 72, 90, 120}) {
            int round = 360 / s;
            CatThatTurns cat = Checks.laid("p99,99,99;p1,1,1;w" + s + ";");
            for (int i = 1; i <= 3 * round && i <= 60; i++) {
                cat.move(0, 1);
                cat.move(1, 2);
                C.due("w" + s + " straight behind " + i, cat.run(0, 3), i % round == 0 ? 1 : 0);
                C.due("w" + s + " straight behind " + i + " less", cat.run(1, 3), i % round == 0 ? 1 : 0);
                C.due("w" + s + " all of " + i, cat.run(0, 1), 1);
                C.due("w" + s + " all of " + i + " less", cat.run(1, 1), 1);
                // One of 100 behind the joint: 120 degrees turn part 0 by 1, the others by 0.
                int back = s == 120 ? i : 0;
                C.due("w" + s + " part 0", cat.turn(0, 0, i, 0), Math.floorMod(-back, 360));
                C.due("w" + s + " part 1", cat.turn(0, 0, i, 1), Math.floorMod(i * s - back, 360));
                C.due("w" + s + " part 1 less", cat.turn(1, 0, i, 1), Math.floorMod(back - i * s, 360));
            }
        }
    }

    /** "TURN of PART 0: degrees, 0 to 359": 359 and 1 more is 0, 0 and 1 less is 359. */
    private static void turnsRoundTheCircle() {
        CatThatTurns up = Checks.laid("p1,1,1;p1,1,1;j1;l2;");
        CatThatTurns down = Checks.laid("p1,1,1;p1,1,1;j1;l-2;");
        row(up, 0, 0, 60);
        row(down, 0, 0, 60);
        for (int t = 0; t <= 60; t++) {
            for (int turn : new int[] {0, 1, 30, 180, 330, 359}) {
                C.due("turn more", up.turn(0, turn, t, 0), (turn + t) % 360);
                C.due("turn less", down.turn(0, turn, t, 0), (turn + 360 - t) % 360);
            }
        }
        // 4999 a tick are more than a circle, either way.
        CatThatTurns far = Checks.laid("p1,1,1;p1,1,1;j1;l9999;");
        CatThatTurns back = Checks.laid("p1,1,1;p1,1,1;j1;l-9999;");
        row(far, 0, 0, 60);
        row(back, 0, 0, 60);
        for (int t = 0; t <= 60; t++) {
            C.due("turn far more", far.turn(0, 359, t, 1), (359 + 4999 * t) % 360);
            C.due("turn far less", back.turn(0, 0, t, 1), Math.floorMod(-4999 * t, 360));
        }
    }

    /** "TURN of a later PART: .. modulo 360", beyond the circle and below 0. */
    private static void laterPartsRoundTheCircle() {
        // 99 of 101 and more are ahead: joint 0 turns part 0 by 90 * 2 / 101, joint 1 by 90 / 101.
        CatThatTurns cat = Checks.laid("p99,99,99;p1,1,1;p1,1,1;j90;j90;");
        Checks.moves(cat, 0, 1, 1, 3, 3);
        Checks.moves(cat, 1, 2, 2, 4, 4);
        int[][] more = {{0, 0, 0}, {359, 89, 89}, {358, 178, 178}, {358, 178, 268}, {358, 178, 358}};
        for (int t = 0; t <= 4; t++) {
            for (int part = 0; part < 3; part++) {
                int turned = more[t][part];
                C.due("turn more", cat.turn(0, 0, t, part), turned);
                C.due("turn more from 359", cat.turn(0, 359, t, part), (turned + 359) % 360);
                C.due("turn less", cat.turn(1, 0, t, part), (360 - turned) % 360);
                C.due("turn less from 359", cat.turn(1, 359, t, part), (719 - turned) % 360);
            }
        }
    }

    /** "It FAILS, if there is no such thing": joints and parts that the body has not. */
    private static void noSuchThing() {
        boolean[] two = new boolean[19];
        boolean[] three = new boolean[19];
        for (int move : new int[] {0, 1, 2, 10, 12, 13, 15}) {
            two[move] = true;
        }
        for (int move : new int[] {0, 1, 2, 3, 4, 10, 12, 13, 15, 16, 18}) {
            three[move] = true;
        }
        for (int move = 0; move <= 18; move++) {
            done("p1,1,1;p1,1,1;j1;", two[move] ? 1 : 0, move);
            done("p1,1,1;p1,1,1;w30;", two[move] ? 1 : 0, move);
            done("p1,1,1;p1,1,1;p1,1,1;j1;j1;", three[move] ? 1 : 0, move);
            done("p1,1,1;p1,1,1;p1,1,1;w30;j1;", three[move] ? 1 : 0, move);
        }
    }

    /** "PART k to POSE p (it has another one)": from each pose to each, of each part. */
    private static void anotherPose() {
        for (int part = 0; part < 3; part++) {
            for (int from = 0; from < 3; from++) {
                for (int to = 0; to < 3; to++) {
                    int first = 10 + 3 * part + from;
                    int second = 10 + 3 * part + to;
                    CatThatTurns cat = Checks.laid("p1,1,1;p1,1,1;p1,1,1;j1;j1;");
                    if (from != 1) {
                        cat.move(0, first);
                    }
                    int ahead = from == 1 ? 0 : 1;
                    cat.move(0, second);
                    C.due("pose " + from + " to " + to, cat.run(0, 0), from == to ? ahead : ahead + 1);
                }
            }
        }
        // The pose of one part is none of another's.
        done("p1,1,1;p1,1,1;p1,1,1;j1;j1;", 6, 10, 13, 16, 12, 15, 18);
        done("p1,1,1;p1,1,1;p1,1,1;j1;j1;", 3, 10, 13, 16, 13);
    }

    /** "(LOADS by POSES behind the MOVE)": the tick of a pose turns by the new loads. */
    private static void loadsBehindTheMove() {
        CatThatTurns cat = Checks.laid("p1,1,99;p1,1,1;j1;l100;");
        Checks.moves(cat, 0, 12, 0, 11, 10);
        int[] turns = {0, 1, 2, 52, 102};
        for (int t = 0; t < turns.length; t++) {
            C.due("turn behind " + t, cat.turn(0, 0, t, 0), turns[t]);
        }
    }

    /** "cut: towards 0", of what is turned back and of L, each for itself. */
    private static void cutTowardsZero() {
        for (int s = 1; s <= 90; s++) {
            CatThatTurns cat = Checks.laid("p1,1,1;p1,1,1;p1,1,1;j" + s + ";j" + s + ";");
            for (int move = 1; move <= 4; move++) {
                cat.move(move - 1, move);
                int back = s * (move < 3 ? 2 : 1) / 3;
                C.due("j" + s + " move " + move, cat.spun(move - 1), Math.floorMod(move % 2 == 1 ? -back : back, 360));
            }
        }
        int[] begun = {-7, -6, -5, -4, -3, -2, -1, 0, 1, 2, 3, 4, 5, 6, 7};
        int[] turned = {-2, -2, -1, -1, -1, 0, 0, 0, 0, 0, 1, 1, 1, 2, 2};
        for (int i = 0; i < begun.length; i++) {
            CatThatTurns cat = Checks.laid("p1,1,1;p2,2,2;j2;l" + begun[i] + ";");
            cat.move(0, 0);
            C.due("l" + begun[i], cat.spun(0), Math.floorMod(turned[i], 360));
            // 2 degrees by 2 of 3 are 1 back (4 by 3), and L for itself, not 4 and L by 3.
            cat.move(1, 1);
            C.due("1 and l" + begun[i], cat.spun(1), Math.floorMod(turned[i] - 1, 360));
            cat.move(2, 2);
            C.due("2 and l" + begun[i], cat.spun(2), Math.floorMod(turned[i] + 1, 360));
        }
    }

    /** Loads of 1 and of 99 on either side of the joint. */
    private static void heaviestAndLightest() {
        String[] texts = {"p1,1,1;p99,99,99;w120;", "p99,99,99;p1,1,1;w120;", "p99,99,99;p99,99,99;w120;",
            "p1,1,1;p99,99,99;p99,99,99;w120;j90;", "p1,1,1;p1,1,1;p99,99,99;j90;w120;"};
        // 120 by 99 of 100, by 1 of 100, by half; 120 by 198 of 199; 90 by 100 of 101.
        int[] back = {118, 1, 60, 119, 89};
        for (int i = 0; i < texts.length; i++) {
            CatThatTurns cat = Checks.laid(texts[i]);
            cat.move(0, 1);
            cat.move(1, 2);
            C.due("spun(0) of " + texts[i], cat.spun(0), 360 - back[i]);
            C.due("spun(1) of " + texts[i], cat.spun(1), back[i]);
        }
    }

    /** "WAYS 0 to 3": each for itself, no others. */
    private static void fourWays() {
        CatThatTurns cat = new CatThatTurns();
        for (int way = 0; way < 4; way++) {
            for (int i = 1; i <= way + 1; i++) {
                C.due("move", cat.move(way, 0), i);
            }
        }
        for (int way : new int[] {Integer.MIN_VALUE, -1, 4, 5, Integer.MAX_VALUE}) {
            C.due("move", cat.move(way, 0), BAD);
            C.due("noWay", cat.noWay(way), BAD);
            C.due("turn", cat.turn(way, 0, 0, 0), BAD);
            C.due("run", cat.run(way, 0), BAD);
            C.due("spun", cat.spun(way), BAD);
            C.due("times", cat.times(way, 1), BAD);
        }
        C.due("count(2)", cat.count(2), 10);
        for (int way = 3; way >= 0; way--) {
            C.due("run", cat.run(way, 0), way + 1);
            C.due("noWay", cat.noWay(way), way + 1);
            C.due("run", cat.run(way, 0), 0);
        }
    }

    /** "(60 at most)", FULL, of each way; "A MOVE (0 to 18)": BAD also where it is full. */
    private static void sixtyMoves() {
        CatThatTurns cat = new CatThatTurns();
        for (int way = 0; way < 4; way++) {
            row(cat, way, 0, 58);
            C.due("move 59", cat.move(way, 18), 59);
            C.due("move 60", cat.move(way, 0), 60);
            C.due("move 61", cat.move(way, 0), FULL);
            C.due("move 61", cat.move(way, 18), FULL);
            C.due("move 61 that is none", cat.move(way, 19), BAD);
            C.due("move 61 that is none", cat.move(way, -1), BAD);
            C.due("run, the 59th fails", cat.run(way, 0), 58);
            C.due("count(2)", cat.count(2), 60 * (way + 1));
        }
        C.due("noWay(2)", cat.noWay(2), 60);
        C.due("move again", cat.move(2, 0), 1);
        C.due("move of a full one", cat.move(1, 0), FULL);
        cat = new CatThatTurns();
        for (int far : FAR) {
            C.due("move that is none", cat.move(0, far), BAD);
        }
        C.due("move that is none", cat.move(0, 19), BAD);
        C.due("move 0", cat.move(0, 0), 1);
        C.due("move 18", cat.move(0, 18), 2);
    }

    /** "empty at first": all is done of no moves, and it is at rest. */
    private static void emptyWays() {
        CatThatTurns cat = Checks.laid("p1,1,1;p1,1,1;j1;l9999;");
        for (int way = 0; way < 4; way++) {
            C.due("run(, 0)", cat.run(way, 0), 0);
            C.due("run(, 1)", cat.run(way, 1), 1);
            C.due("run(, 2)", cat.run(way, 2), 1);
            C.due("run(, 3)", cat.run(way, 3), 1);
            C.due("spun", cat.spun(way), 0);
            C.due("times", cat.times(way, 1), 0);
            C.due("times", cat.times(way, 1000), 0);
            C.due("turn behind none", cat.turn(way, 359, 0, 1), 359);
            C.due("turn behind one", cat.turn(way, 359, 1, 1), NONE);
            C.due("noWay", cat.noWay(way), 0);
        }
    }

    /** "MOVE by MOVE till one FAILS (it is not done) or all are done": the first, one amid, the last. */
    private static void tillOneFails() {
        for (int at = 0; at < 60; at++) {
            CatThatTurns cat = Checks.laid("p1,1,1;p1,1,1;j1;l2;");
            for (int i = 0; i < 60; i++) {
                cat.move(0, i == at ? 5 : 0);
            }
            C.due("run(0, 0), fails at " + at, cat.run(0, 0), at);
            C.due("run(0, 1), fails at " + at, cat.run(0, 1), 0);
            C.due("run(0, 2), fails at " + at, cat.run(0, 2), 0);
            C.due("run(0, 3), fails at " + at, cat.run(0, 3), 1);
            // The move that fails takes no tick: L turns nothing by it.
            C.due("spun(0), fails at " + at, cat.spun(0), at);
            C.due("turn behind what is done", cat.turn(0, 0, at, 0), at);
            C.due("turn behind what fails", cat.turn(0, 0, at + 1, 0), NONE);
            C.due("turn behind all", cat.turn(0, 0, 60, 0), NONE);
        }
        // Nothing of a bend too many is done.
        CatThatTurns cat = Checks.laid("p1,1,1;p1,1,1;j10;");
        Checks.moves(cat, 0, 1, 1, 1, 2);
        C.due("spun(0)", cat.spun(0), 350);
        C.due("turn of part 1", cat.turn(0, 0, 2, 1), 10);
    }

    /** Promise 11: "behind t MOVES (0 to 60)", TURNS 0 to 359, parts that there are. */
    private static void behindAsManyMoves() {
        CatThatTurns cat = new CatThatTurns();
        row(cat, 0, 0, 60);
        row(cat, 1, 0, 59);
        for (int t = 0; t <= 60; t++) {
            C.due("turn behind " + t, cat.turn(0, 7, t, 1), 7);
            C.due("turn behind " + t + " of 59", cat.turn(1, 7, t, 0), t < 60 ? 7 : NONE);
            C.due("turn behind " + t + " of none", cat.turn(2, 7, t, 0), t == 0 ? 7 : NONE);
        }
        for (int t : new int[] {-1, 61, Integer.MIN_VALUE, Integer.MAX_VALUE}) {
            C.due("turn behind " + t, cat.turn(0, 7, t, 0), BAD);
            C.due("turn behind " + t + " of none", cat.turn(2, 7, t, 0), BAD);
        }
        for (int turn : new int[] {-1, 360, Integer.MIN_VALUE, Integer.MAX_VALUE}) {
            C.due("turn from " + turn, cat.turn(0, turn, 0, 0), BAD);
            // Of several the first: BAD, not NONE.
            C.due("turn from " + turn, cat.turn(2, turn, 60, 0), BAD);
        }
        C.due("turn from 359", cat.turn(0, 359, 60, 0), 359);
        C.due("turn from 0", cat.turn(0, 0, 60, 0), 0);
        C.due("turn of part 2 of two", cat.turn(0, 0, 0, 2), BAD);
        C.due("turn of part -1", cat.turn(0, 0, 0, -1), BAD);
        C.due("turn of part 2 behind too many", cat.turn(2, 0, 1, 2), BAD);
        cat = Checks.laid("p1,1,1;p1,1,1;p1,1,1;j1;j1;");
        C.due("turn of part 2 of three", cat.turn(0, 5, 0, 2), 5);
        C.due("turn of part 3 of three", cat.turn(0, 5, 0, 3), BAD);
    }

    private static void closing(int want, int... moves) {
        CatThatTurns cat = Checks.laid("p1,1,1;p1,1,1;p1,1,1;w120;j10;");
        Checks.moves(cat, 2, moves);
        C.due("run(2, 2)", cat.run(2, 2), want);
        C.due("times(2, 1) told", cat.times(2, 1) == NO ? 0 : 1, want);
    }

    /** "It CLOSES, if none FAILS and it is AT REST in the end" (STRAIGHT, all POSES 1). */
    private static void closes() {
        closing(1);
        closing(1, 0);
        closing(0, 1);
        closing(0, 1, 1);
        closing(1, 1, 1, 1);
        closing(1, 2, 2, 2);
        closing(1, 1, 2);
        closing(0, 3);
        closing(1, 3, 4);
        closing(1, 4, 3);
        closing(0, 10);
        closing(1, 10, 11);
        closing(0, 15);
        closing(0, 16);
        closing(1, 16, 18, 17);
        closing(0, 10, 15, 11);
        // At rest, but one fails: the first, the last.
        closing(0, 11);
        closing(0, 1, 2, 5);
        closing(0, 3, 3, 3, 4, 4);
    }

    /** "by how much PART 0 is turned then (0 to 359)": a circle is 0, less than 0 is below 360. */
    private static void spunRoundTheCircle() {
        CatThatTurns up = Checks.laid("p1,1,1;p1,1,1;j1;l24;");
        CatThatTurns down = Checks.laid("p1,1,1;p1,1,1;j1;l-24;");
        for (int t = 0; t <= 60; t++) {
            C.due("spun behind " + t, up.spun(0), 12 * t % 360);
            C.due("spun back behind " + t, down.spun(0), (720 - 12 * t) % 360);
            up.move(0, 0);
            down.move(0, 0);
        }
        CatThatTurns cat = Checks.laid("p1,1,1;p1,1,1;j2;");
        cat.move(0, 1);
        C.due("spun by 1 less", cat.spun(0), 359);
        cat.move(1, 2);
        C.due("spun by 1 more", cat.spun(1), 1);
    }

    /** "TIMES n (1 to 1000)": how often it comes round does not matter. */
    private static void timesOneToThousand() {
        CatThatTurns cat = Checks.laid("p1,1,1;p1,1,1;j1;l718;");
        cat.move(0, 0);
        Checks.moves(cat, 1, 1, 1);
        for (int n : new int[] {1, 2, 3, 359, 360, 361, 720, 999, 1000}) {
            C.due("times(0, " + n + ")", cat.times(0, n), Math.floorMod(-n, 360));
        }
        for (int n : new int[] {0, -1, 1001, Integer.MIN_VALUE, Integer.MAX_VALUE}) {
            C.due("times(0, " + n + ")", cat.times(0, n), BAD);
            C.due("times(1, " + n + "), of several the first", cat.times(1, n), BAD);
        }
        // Begun anew each time at rest: thrice one tick is as three ticks.
        Checks.moves(cat, 2, 0, 0, 0);
        C.due("times(0, 3)", cat.times(0, 3), cat.spun(2));
        cat = Checks.laid("p1,1,1;p1,1,1;j1;l2;");
        cat.move(0, 0);
        C.due("times(0, 359)", cat.times(0, 359), 359);
        C.due("times(0, 360)", cat.times(0, 360), 0);
        C.due("times(0, 1000)", cat.times(0, 1000), 280);
    }

    /** Promise 14: "NO: it does not CLOSE": one that fails, one not straight, one not at rest. */
    private static void timesThatDoNotClose() {
        CatThatTurns cat = new CatThatTurns();
        cat.move(0, 11);
        cat.move(1, 1);
        cat.move(2, 12);
        for (int way = 0; way < 3; way++) {
            C.due("times(, 1)", cat.times(way, 1), NO);
            C.due("times(, 1000)", cat.times(way, 1000), NO);
            C.due("times(, 0)", cat.times(way, 0), BAD);
        }
        C.due("count(2)", cat.count(2), 3);
        cat.move(1, 2);
        cat.move(2, 11);
        C.due("times(1, 1)", cat.times(1, 1), 0);
        C.due("times(2, 1)", cat.times(2, 1), 0);
    }

    /** Promise 12: what is 0 to 3; straight in another pose, too. */
    private static void whatRunTells() {
        CatThatTurns cat = new CatThatTurns();
        Checks.moves(cat, 0, 1, 12, 2);
        int[] all = {3, 1, 0, 1};
        Checks.moves(cat, 1, 12, 1, 12, 2);
        int[] some = {2, 0, 0, 0};
        for (int what = 0; what <= 3; what++) {
            C.due("run(0, " + what + ")", cat.run(0, what), all[what]);
            C.due("run(1, " + what + ")", cat.run(1, what), some[what]);
        }
        for (int what : new int[] {-1, 4, Integer.MIN_VALUE, Integer.MAX_VALUE}) {
            C.due("run(0, " + what + ")", cat.run(0, what), BAD);
        }
    }
}
