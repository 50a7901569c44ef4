/** Soon, falls, free turns, promises 15 to 20: each sentence that names an edge, by itself. */
public final class EdgesOfSoonTest {
    private static final int BAD = -1, NONE = -4;
    private static final int[] NO_TURNS = {Integer.MIN_VALUE, -360, -1, 360, 361, Integer.MAX_VALUE};
    private static final Checks C = new Checks();

    public static void main(String[] args) {
        rightEitherWayAbout();
        fewestTicks();
        noTicksAndTwoHundred();
        straightInAnyPose();
        theFirstOfRowsAsShort();
        theIthMove();
        turnsThatAreNone();
        fallsOfSquares();
        savedByFall();
        freeTurns();
        freeByPosesOfEachPart();
        setsOfJoints();
        fewestOfSeveral();
        worthNothing();
        worthOfNone();
        worthOfJointsThatThereAre();
        C.end();
    }

    /** "RIGHT (off 0, either way about, by E at most)": E of 0 to 90, both sides of 0. */
    private static void rightEitherWayAbout() {
        for (int e = 0; e <= 90; e++) {
            CatThatTurns cat = Checks.laid("p1,1,1;p1,1,1;j1;e" + e + ";");
            C.due("soon(e) of " + e, cat.soon(e, -1), 0);
            C.due("soon(e and 1) of " + e, cat.soon(e + 1, -1), NONE);
            C.due("soon(360 less e) of " + e, cat.soon((360 - e) % 360, -1), 0);
            C.due("soon(359 less e) of " + e, cat.soon(359 - e, -1), NONE);
            C.due("soon(180) of " + e, cat.soon(180, -1), NONE);
            C.due("saved(0) of " + e, cat.saved(0), 2 * e + 1);
        }
    }

    /** "the fewest TICKS": to the near edge of what is right, past 0, and past the far one. */
    private static void fewestTicks() {
        CatThatTurns cat = Checks.laid("p1,1,1;p1,1,1;j1;l20;e4;");
        // 10 a tick, 9 turns are right: of each ten one is passed by, and comes round no more.
        for (int turn = 0; turn < 360; turn++) {
            int want = NONE;
            for (int t = 200; t >= 0; t--) {
                int is = (turn + 10 * t) % 360;
                want = is <= 4 || is >= 356 ? t : want;
            }
            C.due("soon(" + turn + ", -1)", cat.soon(turn, -1), want);
        }
        C.due("soon(5, -1)", cat.soon(5, -1), NONE);
        C.due("soon(355, -1)", cat.soon(355, -1), NONE);
        C.due("soon(6, -1)", cat.soon(6, -1), 35);
        C.due("soon(354, -1)", cat.soon(354, -1), 1);
        C.due("saved(100000)", cat.saved(100000), 324);
    }

    /** "(0 to 200)": 200 ticks are, 201 are none, whichever way it turns. */
    private static void noTicksAndTwoHundred() {
        CatThatTurns up = Checks.laid("p1,1,1;p1,1,1;j1;l2;e0;");
        CatThatTurns down = Checks.laid("p1,1,1;p1,1,1;j1;l-2;e0;");
        CatThatTurns wide = Checks.laid("p1,1,1;p1,1,1;j1;l2;e5;");
        for (int ticks = 0; ticks <= 202; ticks++) {
            int want = ticks <= 200 ? ticks : NONE;
            C.due("soon, up", up.soon((360 - ticks) % 360, -1), want);
            C.due("soon, down", down.soon(ticks, -1), want);
            C.due("soon, 5 ahead", wide.soon(355 - ticks, -1), want == 0 ? 0 : want);
            C.due("the last move", up.soon((360 - ticks) % 360, ticks - 1), ticks == 0 || ticks > 200 ? want : 0);
        }
        C.due("soon, just turned past", up.soon(1, -1), NONE);
        C.due("soon, just turned past", down.soon(359, -1), NONE);
        C.due("soon, just turned past", wide.soon(6, -1), NONE);
        // Asked from far ahead of near, and the other way about, on one object.
        CatThatTurns cat = Checks.laid("p1,1,1;p1,1,1;j1;l2;e0;");
        C.due("soon(159, -1)", cat.soon(159, -1), NONE);
        C.due("soon(160, -1)", cat.soon(160, -1), 200);
        C.due("soon(160, 199)", cat.soon(160, 199), 0);
        C.due("soon(0, -1)", cat.soon(0, -1), 0);
    }

    /** "it is STRAIGHT": no joint bent, poses as they like; bent and right is not enough. */
    private static void straightInAnyPose() {
        // 4 by 2 of 4 is 2 a step; with part 0 stretched 4 by 2 of 8 is 1: bend, stretch, bend back.
        CatThatTurns cat = Checks.laid("p2,2,6;p2,2,2;j4;e0;");
        C.due("soon(2, -1), bent it is 1 tick", cat.soon(2, -1), 5);
        C.due("soon(1, -1), stretched in the end", cat.soon(1, -1), 3);
        C.due("soon(1, 0)", cat.soon(1, 0), 1);
        C.due("soon(1, 1)", cat.soon(1, 1), 12);
        C.due("soon(1, 2)", cat.soon(1, 2), 2);
        C.due("soon(359, 0)", cat.soon(359, 0), 2);
        C.due("soon(359, 1)", cat.soon(359, 1), 12);
        C.due("soon(359, 2)", cat.soon(359, 2), 1);
        // All parts drawn in, all stretched; part 2 alone.
        rowOf("p1,9,9;p1,9,9;j1;l18;e0;", 350, 10, 13);
        rowOf("p9,9,1;p9,9,1;j1;l18;e0;", 350, 12, 15);
        rowOf("p1,9,9;p1,9,9;p1,9,9;j1;j1;l27;e0;", 348, 10, 13, 16);
        rowOf("p9,9,1;p9,9,1;p9,9,1;j1;j1;l27;e0;", 348, 12, 15, 18);
        rowOf("p9,9,9;p9,9,9;p9,9,1;j1;j1;l19;e0;", 359, 18);
        rowOf("p9,9,9;p9,9,9;p1,9,9;j1;j1;l19;e0;", 359, 16);
    }

    private static void rowOf(String text, int turn, int... moves) {
        CatThatTurns cat = Checks.laid(text);
        C.due("soon(" + turn + ", -1) of " + text, cat.soon(turn, -1), moves.length);
        for (int i = 0; i < moves.length; i++) {
            C.due("soon(" + turn + ", " + i + ") of " + text, cat.soon(turn, i), moves[i]);
        }
        C.due("soon(" + turn + ", " + moves.length + ") of " + text, cat.soon(turn, moves.length), NONE);
    }

    /** "of all rows as short the first by MOVES (the lower ahead)". */
    private static void theFirstOfRowsAsShort() {
        // Nothing ahead of a pose that changes nothing.
        rowOf("p5,5,5;p5,5,5;j1;l10;e0;", 358, 0, 0);
        // Drawn in ahead of stretched, part 0 ahead of part 1.
        rowOf("p1,9,1;p1,9,1;j1;l20;e0;", 358, 10);
        rowOf("p9,9,1;p1,9,9;j1;l20;e0;", 358, 12);
        rowOf("p9,9,9;p1,9,1;j1;l20;e0;", 358, 13);
        // One step more ahead of one less, joint 0 ahead of joint 1; both are round half a circle.
        rowOf("p1,1,1;p1,1,1;w120;e0;", 180, 1, 1, 1);
        rowOf("p1,1,1;p1,1,1;p2,2,2;w120;j1;e30;", 270, 1, 1, 1);
        rowOf("p1,1,1;p1,1,1;p2,2,2;w120;j1;e30;", 90, 2, 2, 2);
        rowOf("p2,2,2;p1,1,1;p1,1,1;j1;w120;e0;", 90, 3, 3, 3);
        rowOf("p2,2,2;p1,1,1;p1,1,1;j1;w120;e0;", 270, 4, 4, 4);
        // All drawn in, not turned yet: 45 by 6 of 7 is 38 back, by 5 of 6 37 forth.
        rowOf("p1,14,20;p6,14,5;w45;e0;", 1, 10, 13, 1, 15, 2);
        rowOf("p9,11,19;p16,18,18;w120;e0;", 176, 10, 13, 2, 12, 2, 2);
        // Rounds of a wag take no order but by moves: 1 1 1 is ahead of all that begin with 2.
        rowOf("p1,1,1;p1,1,1;w90;e0;", 180, 1, 1, 1, 1);
        rowOf("p1,1,1;p1,1,1;w90;e90;", 180, 1, 1, 1, 1);
        // 36 a round: one more is as short as one less from 180 only.
        rowOf("p9,9,9;p1,1,1;w120;e12;", 180, 1, 1, 1, 1, 1, 1, 1, 1, 1, 1, 1, 1, 1, 1, 1);
        rowOf("p9,9,9;p1,1,1;w120;e12;", 205, 2, 2, 2, 2, 2, 2, 2, 2, 2, 2, 2, 2);
        rowOf("p9,9,9;p1,1,1;w120;e24;", 180, 1, 1, 1, 1, 1, 1, 1, 1, 1, 1, 1, 1, 1, 1, 1);
    }

    /** Promise 15: "the TICKS (i = -1), the i-th MOVE (NONE beyond)": 0 is the first. */
    private static void theIthMove() {
        CatThatTurns cat = Checks.laid("p1,1,3;p1,1,3;j40;e20;");
        int[] moves = {1, 12, 2};
        C.due("soon(21, -1)", cat.soon(21, -1), 3);
        for (int i = 0; i < 3; i++) {
            C.due("soon(21, " + i + ")", cat.soon(21, i), moves[i]);
        }
        for (int i : new int[] {3, 4, 199, 200, 201, 1000, Integer.MAX_VALUE}) {
            C.due("soon(21, " + i + ")", cat.soon(21, i), NONE);
            C.due("soon(20, " + i + ")", cat.soon(20, i), NONE);
        }
        C.due("soon(20, -1)", cat.soon(20, -1), 0);
        C.due("soon(20, 0), no moves", cat.soon(20, 0), NONE);
        for (int i : new int[] {-2, -3, -1000, Integer.MIN_VALUE}) {
            C.due("soon(21, " + i + ")", cat.soon(21, i), BAD);
            C.due("soon(20, " + i + ")", cat.soon(20, i), BAD);
        }
        cat = new CatThatTurns();
        for (int i : new int[] {-1, 0, 1, 200, Integer.MAX_VALUE}) {
            C.due("soon(180, " + i + "), never", cat.soon(180, i), NONE);
        }
    }

    /** Turns are 0 to 359: BAD beyond, of soon and of worth. */
    private static void turnsThatAreNone() {
        CatThatTurns cat = Checks.laid("p1,1,1;p1,1,1;j1;e90;");
        for (int turn : NO_TURNS) {
            for (int i : new int[] {-2, -1, 0, 300}) {
                C.due("soon(" + turn + ", " + i + ")", cat.soon(turn, i), BAD);
            }
            C.due("worth(0, " + turn + ")", cat.worth(0, turn), BAD);
        }
        C.due("soon(0, -1)", cat.soon(0, -1), 0);
        C.due("soon(359, -1)", cat.soon(359, -1), 0);
        C.due("worth(0, 0)", cat.worth(0, 0), 0);
        C.due("worth(0, 359)", cat.worth(0, 359), 0);
    }

    /** "FALL of h (0 to 100000): the greatest t whose (t times t) is no more than h". */
    private static void fallsOfSquares() {
        CatThatTurns cat = new CatThatTurns();
        C.due("fall(0)", cat.fall(0), 0);
        for (int t = 1; t <= 316; t++) {
            cat = t % 160 == 0 ? new CatThatTurns() : cat;
            C.due("fall one less than " + t + " times " + t, cat.fall(t * t - 1), t - 1);
            C.due("fall " + t + " times " + t, cat.fall(t * t), t);
            C.due("fall one more than " + t + " times " + t, cat.fall(t * t + 1), t);
        }
        C.due("fall(99999)", cat.fall(99999), 316);
        C.due("fall(100000)", cat.fall(100000), 316);
        for (int h : new int[] {-1, 100001, Integer.MIN_VALUE, Integer.MAX_VALUE}) {
            C.due("fall(" + h + ")", cat.fall(h), BAD);
            C.due("saved(" + h + ")", cat.saved(h), BAD);
        }
    }

    /** "from how many TURNS (0 to 359) it is SOON by FALL": as many ticks, not one more. */
    private static void savedByFall() {
        CatThatTurns cat = Checks.laid("p1,1,1;p1,1,1;j1;l2;e0;");
        for (int t = 0; t <= 201; t++) {
            int most = Math.min(t, 200);
            C.due("saved of " + t + " ticks", cat.saved(t * t), 1 + most);
            C.due("saved of " + t + " ticks, nearly", cat.saved(t * t + 2 * t), 1 + most);
        }
        C.due("saved(100000)", cat.saved(100000), 201);
        // From above down, and each on an object of its own: it is no matter what was asked ahead.
        for (int t = 201; t >= 0; t -= 40) {
            CatThatTurns fresh = Checks.laid("p1,1,1;p1,1,1;j1;l2;e0;");
            C.due("saved of " + t + " ticks, fresh", fresh.saved(t * t), 1 + Math.min(t, 200));
            C.due("saved of " + t + " ticks, again", cat.saved(t * t), 1 + Math.min(t, 200));
        }
        C.due("saved(0) of e90", Checks.laid("p1,1,1;p1,1,1;j1;e90;").saved(0), 181);
        C.due("saved(0) of e0", Checks.laid("p1,1,1;p1,1,1;j1;e0;").saved(0), 1);
        C.due("saved(100000) of e0", Checks.laid("p1,1,1;p1,1,1;j1;e0;").saved(100000), 1);
        C.due("saved of all", Checks.laid("p1,1,1;p1,1,1;j1;l8;e2;").saved(100000), 360);
        // From 3, 4, 5 it is 89 ticks to 359, 0, 1.
        C.due("saved of all, 88 ticks", Checks.laid("p1,1,1;p1,1,1;j1;l8;e2;").saved(88 * 88), 357);
        C.due("saved of all, 89 ticks", Checks.laid("p1,1,1;p1,1,1;j1;l8;e2;").saved(89 * 89), 360);
    }

    /** "how many TURNS (0 too)": 1 at least, 360 at most; "whatever L". */
    private static void freeTurns() {
        // A step there in one pose and back in another: by the measure of all differences.
        String[] texts = {"p1,1,1;p1,1,1;j90;", "p1,1,2;p1,1,1;j1;", "p1,1,2;p1,1,1;j6;", "p1,1,2;p1,1,1;j12;",
            "p9,9,1;p9,9,1;j10;", "p99,99,99;p1,1,1;w120;", "p99,99,99;p1,1,1;w90;", "p1,1,1;p99,99,99;w120;"};
        // 1 by half is 0, by a third 0: none. 6: 3 and 2. 12: 6, 4, 8. 10: 5, 1, 9: fours.
        // Once round by 1 of 100: 3; by 0: none; by 99 of 100: 354.
        int[] turns = {1, 1, 360, 180, 90, 120, 1, 60};
        for (int i = 0; i < texts.length; i++) {
            for (String begun : new String[] {"", "l0;", "l1;", "l9999;", "l-9999;"}) {
                CatThatTurns cat = Checks.laid(texts[i] + begun);
                C.due("free(1) of " + texts[i] + begun, cat.free(1), turns[i]);
                C.due("free(0) of " + texts[i] + begun, cat.free(0), 1);
                C.due("fewest() of " + texts[i] + begun, cat.fewest(), turns[i] > 1 ? 1 : NONE);
            }
        }
    }

    /** "PART 0 can come to from 0": by the poses of each part, drawn in or stretched. */
    private static void freeByPosesOfEachPart() {
        // 60 by 2 of 3 is 40, by 2 of 4 is 30, by 3 of 4 is 45; of joint 1 by 1 of 3 is 20, of 4 15, 2 of 4 30.
        int[][] turns = {{36, 72}, {72, 72}, {72, 36}};
        for (int part = 0; part < 3; part++) {
            for (String loads : new String[] {"p2,1,1;", "p1,1,2;"}) {
                StringBuilder text = new StringBuilder();
                for (int k = 0; k < 3; k++) {
                    text.append(k == part ? loads : "p1,1,1;");
                }
                CatThatTurns cat = Checks.laid(text + "j60;j60;");
                C.due("free(0) of " + text, cat.free(0), 1);
                C.due("free(1) of " + text, cat.free(1), turns[part][0]);
                C.due("free(2) of " + text, cat.free(2), turns[part][1]);
                C.due("fewest() of " + text, cat.fewest(), 1);
            }
        }
    }

    /** "a set of JOINTS (bits; others don't move)": such as there are. */
    private static void setsOfJoints() {
        CatThatTurns two = Checks.laid("p1,1,1;p1,1,1;w120;");
        CatThatTurns three = Checks.laid("p1,1,1;p1,1,1;p2,2,2;w120;j12;");
        // A wag once round by 3 of 4 is 270: 4 turns; the other bends without loads that change.
        int[] ofTwo = {1, 2};
        int[] ofThree = {1, 4, 1, 4};
        for (int set = 0; set < 4; set++) {
            C.due("free(" + set + ") of two", two.free(set), set < 2 ? ofTwo[set] : BAD);
            C.due("free(" + set + ") of three", three.free(set), ofThree[set]);
        }
        for (int set : new int[] {-1, -2, 4, 5, 8, 1 << 30, Integer.MIN_VALUE, Integer.MAX_VALUE}) {
            C.due("free(" + set + ") of two", two.free(set), BAD);
            C.due("free(" + set + ") of three", three.free(set), BAD);
        }
    }

    /** "the fewest JOINTS by which FREE is more than 1; of several the least bits; none". */
    private static void fewestOfSeveral() {
        // Both alone: the first. The second alone: the second, ahead of both. Neither: none.
        C.due("both", Checks.laid("p1,1,1;p1,1,2;p1,1,1;j30;j30;").fewest(), 1);
        C.due("the first", Checks.laid("p1,1,1;p1,1,1;p1,1,1;w120;j90;").fewest(), 1);
        C.due("the second", Checks.laid("p1,1,1;p1,1,1;p1,1,1;j90;w120;").fewest(), 2);
        C.due("none", Checks.laid("p1,1,1;p1,1,1;p1,1,1;j90;j90;").fewest(), NONE);
        C.due("none of two", Checks.laid("p1,1,1;p1,1,1;j90;").fewest(), NONE);
        C.due("one of two", Checks.laid("p1,1,1;p1,1,1;w90;").fewest(), 1);
        // A wag that is too light to turn the others at all, whatever it is begun with.
        C.due("none by 0", Checks.laid("p99,99,99;p1,1,1;p1,1,1;j2;w45;l9;").fewest(), NONE);
        CatThatTurns cat = Checks.laid("p1,1,1;p1,1,1;p1,1,1;j90;w120;");
        C.due("free(1)", cat.free(1), 1);
        C.due("free(2)", cat.free(2), 3);
        C.due("free(3)", cat.free(3), 3);
    }

    /** "by how many TICKS it is SOON later without it": 0 where it is of no use, 200 at most. */
    private static void worthNothing() {
        // 1 a tick; a step of the wag turns 30 back, once round 180 less 6 that it took.
        CatThatTurns cat = Checks.laid("p1,1,1;p1,1,1;w60;l2;e0;");
        C.due("worth(0, 0), right as it is", cat.worth(0, 0), 0);
        C.due("worth(0, 359)", cat.worth(0, 359), 0);
        C.due("worth(0, 187), no use", cat.worth(0, 187), 0);
        C.due("soon(174, -1)", cat.soon(174, -1), 6);
        C.due("worth(0, 174)", cat.worth(0, 174), 186 - 6);
        C.due("worth(0, 160), without it 200", cat.worth(0, 160), 200 - 20);
        C.due("worth(0, 159), without it 201", cat.worth(0, 159), NONE);
        C.due("soon(159, -1)", cat.soon(159, -1), 21);
    }

    /** "none: not SOON without it, or with": neither, only with. */
    private static void worthOfNone() {
        CatThatTurns never = new CatThatTurns();
        C.due("worth(0, 11), neither", never.worth(0, 11), NONE);
        C.due("worth(0, 10), both at once", never.worth(0, 10), 0);
        CatThatTurns with = Checks.laid("p1,1,1;p1,1,1;w120;e0;");
        C.due("soon(180, -1)", with.soon(180, -1), 3);
        C.due("worth(0, 180), only with", with.worth(0, 180), NONE);
        C.due("worth(0, 0), both at once", with.worth(0, 0), 0);
        C.due("worth(0, 90), neither", with.worth(0, 90), NONE);
        // Of two joints each without the other.
        CatThatTurns cat = Checks.laid("p1,1,1;p1,1,1;p2,2,2;w120;j1;e0;");
        C.due("soon(270, -1)", cat.soon(270, -1), 3);
        C.due("worth(0, 270)", cat.worth(0, 270), NONE);
        C.due("worth(1, 270)", cat.worth(1, 270), 0);
    }

    /** "BAD: (.. JOINTS: such as there are)". */
    private static void worthOfJointsThatThereAre() {
        CatThatTurns two = new CatThatTurns();
        CatThatTurns three = Checks.laid("p1,1,1;p1,1,1;p1,1,1;j1;j1;");
        for (int joint : new int[] {Integer.MIN_VALUE, -1, 0, 1, 2, 3, Integer.MAX_VALUE}) {
            C.due("worth(" + joint + ", 0) of two", two.worth(joint, 0), joint == 0 ? 0 : BAD);
            C.due("worth(" + joint + ", 0) of three", three.worth(joint, 0), joint == 0 || joint == 1 ? 0 : BAD);
            C.due("worth(" + joint + ", 180) of two", two.worth(joint, 180), joint == 0 ? NONE : BAD);
        }
    }
}
