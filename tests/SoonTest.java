/** Promises 15 to 20: soon, fall, saved, free, fewest, worth. */
public final class SoonTest {
    private static final Checks C = new Checks();

    public static void main(String[] args) {
        standingStill();
        drifting();
        mostTicks();
        rows();
        askedInAnyOrder();
        falls();
        loops();
        worths();
        wrongInputs();
        C.end();
    }

    private static void standingStill() {
        CatThatTurns cat = new CatThatTurns();
        for (int turn = 0; turn < 360; turn++) {
            boolean right = turn <= 10 || turn >= 350;
            cat = turn % 120 == 0 ? new CatThatTurns() : cat;
            C.due("soon(" + turn + ", -1)", cat.soon(turn, -1), right ? 0 : -4);
            C.due("soon(" + turn + ", 0)", cat.soon(turn, 0), -4);
            C.due("worth(0, " + turn + ")", cat.worth(0, turn), right ? 0 : -4);
        }
        C.due("saved(0)", cat.saved(0), 21);
        C.due("saved(100000)", cat.saved(100000), 21);
        cat = Checks.laid("p1,1,1;p1,1,1;j10;e0;");
        C.due("soon(0, -1)", cat.soon(0, -1), 0);
        C.due("soon(1, -1)", cat.soon(1, -1), -4);
        C.due("saved(9)", cat.saved(9), 1);
        cat = Checks.laid("p1,1,1;p1,1,1;j10;e90;");
        C.due("soon(90, -1)", cat.soon(90, -1), 0);
        C.due("soon(270, -1)", cat.soon(270, -1), 0);
        C.due("soon(91, -1)", cat.soon(91, -1), -4);
        C.due("soon(269, -1)", cat.soon(269, -1), -4);
        C.due("saved(9)", cat.saved(9), 181);
    }

    private static void drifting() {
        // 5 a tick; what the joint turns it must turn back.
        CatThatTurns cat = Checks.laid("p1,1,1;p1,1,1;j10;l10;e5;");
        for (int turn = 0; turn < 360; turn++) {
            int ticks = turn <= 5 ? 0 : (355 - turn + 4) / 5;
            ticks = Math.max(ticks, 0);
            cat = turn % 6 == 0 ? Checks.laid("p1,1,1;p1,1,1;j10;l10;e5;") : cat;
            C.due("soon(" + turn + ", -1)", cat.soon(turn, -1), ticks);
            for (int i = 0; i < ticks; i++) {
                C.due("soon(" + turn + ", " + i + ")", cat.soon(turn, i), 0);
            }
            C.due("soon(" + turn + ", " + ticks + ")", cat.soon(turn, ticks), -4);
            C.due("soon(" + turn + ", far)", cat.soon(turn, Integer.MAX_VALUE), -4);
        }
        C.due("saved(8)", cat.saved(8), 11 + 2 * 5);
        C.due("saved(9)", cat.saved(9), 11 + 3 * 5);
        C.due("saved(100000)", cat.saved(100000), 360);
        cat = Checks.laid("p1,1,1;p1,1,1;j10;l-10;e5;");
        C.due("soon(10, -1)", cat.soon(10, -1), 1);
        C.due("soon(354, -1)", cat.soon(354, -1), 70);
        // Less than all loads turn nothing at all; drawn in there are fewer.
        cat = Checks.laid("p9,9,9;p9,9,9;j1;l17;e0;");
        C.due("soon(359, -1)", cat.soon(359, -1), -4);
        cat = Checks.laid("p8,9,9;p9,9,9;j1;l17;e0;");
        C.due("soon(359, -1)", cat.soon(359, -1), 1);
        C.due("soon(359, 0)", cat.soon(359, 0), 10);
        C.due("soon(357, -1)", cat.soon(357, -1), 3);
        C.due("soon(357, 0)", cat.soon(357, 0), 10);
        C.due("soon(357, 1)", cat.soon(357, 1), 0);
        C.due("soon(357, 2)", cat.soon(357, 2), 0);
    }

    private static void mostTicks() {
        CatThatTurns cat = Checks.laid("p1,1,1;p1,1,1;j1;l2;e0;");
        C.due("soon(160, -1)", cat.soon(160, -1), 200);
        C.due("soon(160, 199)", cat.soon(160, 199), 0);
        C.due("soon(160, 200)", cat.soon(160, 200), -4);
        C.due("soon(159, -1)", cat.soon(159, -1), -4);
        C.due("soon(159, 0)", cat.soon(159, 0), -4);
        C.due("soon(1, -1)", cat.soon(1, -1), -4);
        C.due("soon(0, -1)", cat.soon(0, -1), 0);
        C.due("saved(100000)", cat.saved(100000), 201);
        C.due("saved(40000)", cat.saved(40000), 201);
        C.due("saved(39999)", cat.saved(39999), 200);
        C.due("saved(1)", cat.saved(1), 2);
        C.due("saved(0)", cat.saved(0), 1);
        C.due("worth(0, 160)", cat.worth(0, 160), 0);
        C.due("worth(0, 159)", cat.worth(0, 159), -4);
        cat = Checks.laid("p1,1,1;p1,1,1;j1;l2;e0;");
        C.due("saved(39999) first", cat.saved(39999), 200);
        cat = Checks.laid("p50,1,55;p86,22,36;j2;e0;");
        C.due("soon(80, -1)", cat.soon(80, -1), 200);
        C.due("soon(279, -1)", cat.soon(279, -1), -4);
        PlainCat plain = plain("p50,1,55;p86,22,36;j2;e0;");
        C.due("soon(80, -1)", plain.soon(80, -1), 200);
        C.due("soon(279, -1)", plain.soon(279, -1), -4);
    }

    private static PlainCat plain(String text) {
        PlainCat plain = new PlainCat();
        plain.text.append(text);
        plain.lay();
        return plain;
    }

    private static void soonRow(CatThatTurns cat, int turn, int... moves) {
        C.due("soon(" + turn + ", -1)", cat.soon(turn, -1), moves.length);
        for (int i = 0; i < moves.length; i++) {
            C.due("soon(" + turn + ", " + i + ")", cat.soon(turn, i), moves[i]);
        }
        C.due("soon(" + turn + ", " + moves.length + ")", cat.soon(turn, moves.length), -4);
    }

    private static void rows() {
        // Bend, stretch, bend back: 20 by half, 30 or 10 by one stretched of two.
        CatThatTurns cat = Checks.laid("p1,1,3;p1,1,3;j40;e20;");
        soonRow(cat, 20);
        soonRow(cat, 21, 1, 12, 2);
        soonRow(cat, 30, 1, 12, 2);
        soonRow(cat, 339, 1, 15, 2);
        // Twice bent, twice bent back turns 20; of the rows of five 1 1 12 2 2 is the first.
        soonRow(cat, 31, 1, 1, 12, 2, 2);
        soonRow(cat, 40, 1, 1, 12, 2, 2);
        // Straight in any poses: stretched, both turn by 9 a tick, one alone by 1.
        cat = Checks.laid("p9,9,1;p9,9,1;j1;l18;e0;");
        soonRow(cat, 350, 12, 15);
        soonRow(cat, 341, 12, 15, 0);
        cat = Checks.laid("p1,9,9;p1,9,9;j1;l18;e0;");
        soonRow(cat, 350, 10, 13);
        // A wag that turns 12 back a step goes either way; three rounds of it are as far as two steps.
        cat = Checks.laid("p9,9,9;p1,1,1;w120;e0;");
        soonRow(cat, 36, 1, 1, 1);
        soonRow(cat, 324, 2, 2, 2);
        soonRow(cat, 35 - 35);
        C.due("soon(12, -1)", cat.soon(12, -1), -4);
        soonRow(cat, 180, 1, 1, 1, 1, 1, 1, 1, 1, 1, 1, 1, 1, 1, 1, 1);
        C.due("saved(100)", cat.saved(100), 7);
        String[] texts = {"p20,24,40;p8,10,30;p18,24,44;j30;w90;e8;", "p5,9,20;p4,8,16;p3,10,25;j24;j45;l37;e3;",
            "p7,3,9;p1,2,3;w36;l-31;e0;"};
        for (String text : texts) {
            cat = Checks.laid(text);
            PlainCat plain = plain(text);
            for (int turn = 0; turn < 360; turn += 45) {
                for (int i = -1; i <= plain.soon(turn, -1); i++) {
                    C.due("soon(" + turn + ", " + i + ") " + text, cat.soon(turn, i), plain.soon(turn, i));
                }
            }
            C.due("worth(0, 45) " + text, cat.worth(0, 45), plain.worth(0, 45));
        }
    }

    /** A search that is taken up again answers as one that is made in one go. */
    private static void askedInAnyOrder() {
        String text = "p20,24,40;p8,10,30;p18,24,44;j30;w60;l3;e2;";
        CatThatTurns up = Checks.laid(text);
        CatThatTurns down = Checks.laid(text);
        CatThatTurns mixed = Checks.laid(text);
        C.due("saved", mixed.saved(5), up.saved(5));
        for (int turn = 359; turn >= 0; turn -= 7) {
            mixed.worth(turn % 2, turn);
            down.soon(turn, -1);
        }
        for (int turn = 2; turn < 360; turn += 35) {
            for (int i = -1; i <= up.soon(turn, -1); i++) {
                C.due("soon(" + turn + ", " + i + ")", down.soon(turn, i), up.soon(turn, i));
                C.due("soon(" + turn + ", " + i + ")", mixed.soon(turn, i), up.soon(turn, i));
            }
            C.due("worth(0, " + turn + ")", mixed.worth(0, turn), up.worth(0, turn));
            C.due("worth(1, " + turn + ")", mixed.worth(1, turn), down.worth(1, turn));
        }
        C.due("saved", up.saved(50), down.saved(50));
        C.due("saved", up.saved(0), 5);
    }

    private static void falls() {
        CatThatTurns cat = new CatThatTurns();
        for (int t = 1; t <= 316; t++) {
            cat = t % 200 == 0 ? new CatThatTurns() : cat;
            C.due("fall(" + t * t + ")", cat.fall(t * t), t);
            C.due("fall(" + (t * t - 1) + ")", cat.fall(t * t - 1), t - 1);
        }
        C.due("fall(0)", cat.fall(0), 0);
        C.due("fall(100000)", cat.fall(100000), 316);
        C.due("fall(100001)", cat.fall(100001), -1);
        C.due("fall(-1)", cat.fall(-1), -1);
    }

    private static void loops() {
        // 40 by half is 20, by one stretched of two 30 or 10: tens.
        CatThatTurns cat = Checks.laid("p1,1,3;p1,1,3;j40;");
        C.due("free(0)", cat.free(0), 1);
        C.due("free(1)", cat.free(1), 36);
        C.due("fewest()", cat.fewest(), 1);
        cat = Checks.laid("p1,1,3;p1,1,3;j40;l77;");
        C.due("free(0)", cat.free(0), 1);
        C.due("free(1)", cat.free(1), 36);
        C.due("fewest()", cat.fewest(), 1);
        // A wag's step turns 12, three are round: 36; 45 by half is 22, eight are 176.
        cat = Checks.laid("p9,9,9;p1,1,1;w120;");
        C.due("free(1)", cat.free(1), 10);
        cat = Checks.laid("p1,1,1;p1,1,1;w45;");
        C.due("free(1)", cat.free(1), 45);
        cat = Checks.laid("p1,1,1;p1,1,1;w90;");
        C.due("free(1)", cat.free(1), 2);
        C.due("fewest()", cat.fewest(), 1);
        // 40 by half is 20, by one of four 10, three of four 30: whichever part, whichever pose.
        String[] one = {"p1,3,3;p1,1,1;j40;", "p3,1,3;p1,1,1;j40;", "p3,3,1;p1,1,1;j40;", "p3,3,3;p1,3,3;j40;",
            "p3,3,3;p3,1,3;j40;", "p3,3,3;p3,3,1;j40;", "p1,1,1;p1,1,3;j40;", "p1,1,1;p3,1,1;j40;"};
        for (String text : one) {
            C.due("free(1) of " + text, Checks.laid(text).free(1), 36);
            C.due("fewest() of " + text, Checks.laid(text).fewest(), 1);
        }
        String[] three = {"p1,1,1;p1,1,1;p3,2,2;j60;j60;", "p1,1,1;p2,2,3;p1,1,1;j60;j60;",
            "p3,2,2;p1,1,1;p1,1,1;j60;j60;", "p1,3,1;p2,3,1;p3,1,2;w72;j60;", "p4,4,4;p4,4,4;p4,4,4;j7;w30;"};
        for (String text : three) {
            for (int joints = 0; joints < 4; joints++) {
                C.due("free(" + joints + ") of " + text, Checks.laid(text).free(joints), plain(text).free(joints));
            }
            C.due("fewest() of " + text, Checks.laid(text).fewest(), plain(text).fewest());
        }
        // 99 of 100 ahead: a step of 90 turns nothing; fewest is none, whatever it is begun with.
        cat = Checks.laid("p99,99,99;p1,1,1;w90;l5000;");
        C.due("free(1)", cat.free(1), 1);
        C.due("fewest()", cat.fewest(), -4);
        cat = Checks.laid("p1,1,1;p1,1,1;p1,1,1;j10;w120;");
        C.due("free(0)", cat.free(0), 1);
        C.due("free(1)", cat.free(1), 1);
        C.due("free(2)", cat.free(2), 3);
        C.due("free(3)", cat.free(3), 3);
        C.due("fewest()", cat.fewest(), 2);
        C.due("free(4)", cat.free(4), -1);
        // The last part's poses alone: 30 by 2 of 3 is 20, by 3 of 4 is 22; of joint 1 10 and 15.
        cat = Checks.laid("p1,1,1;p1,1,1;p1,1,2;j30;j30;");
        C.due("free(1)", cat.free(1), 180);
        C.due("free(2)", cat.free(2), 72);
        C.due("free(3)", cat.free(3), 360);
        C.due("fewest()", cat.fewest(), 1);
        cat = Checks.laid("p1,1,1;p1,1,1;p1,1,1;j30;j30;");
        C.due("fewest()", cat.fewest(), -4);
        C.due("free(3)", cat.free(3), 1);
    }

    private static void worths() {
        // 1 a tick; the wag turns 30 back a step: once round is 174 back in 6 ticks.
        CatThatTurns cat = Checks.laid("p1,1,1;p1,1,1;w60;l2;e0;");
        C.due("soon(162, -1)", cat.soon(162, -1), 18);
        C.due("worth(0, 162)", cat.worth(0, 162), 198 - 18);
        C.due("worth(0, 174)", cat.worth(0, 174), 186 - 6);
        C.due("worth(0, 355)", cat.worth(0, 355), 0);
        C.due("worth(0, 0)", cat.worth(0, 0), 0);
        // Without it more than 200 ticks are no ticks.
        C.due("soon(150, -1)", cat.soon(150, -1), 30);
        C.due("worth(0, 150)", cat.worth(0, 150), -4);
        C.due("worth(0, 160)", cat.worth(0, 160), 200 - 20);
        // One joint helps, the other does not.
        cat = Checks.laid("p1,1,1;p1,1,1;p1,1,1;w90;j1;l3;e0;");
        C.due("soon(240, -1)", cat.soon(240, -1), 120);
        C.due("soon(236, -1)", cat.soon(236, -1), 4);
        C.due("worth(0, 236)", cat.worth(0, 236), 120);
        C.due("worth(1, 236)", cat.worth(1, 236), 0);
        C.due("worth(0, 240)", cat.worth(0, 240), 0);
        C.due("worth(0, 100)", cat.worth(0, 100), -4);
    }

    private static void wrongInputs() {
        CatThatTurns cat = Checks.laid("p1,1,1;p1,1,1;p1,1,1;w120;j1;");
        int[] bad = {-1, Integer.MIN_VALUE, Integer.MAX_VALUE, 360};
        for (int turn : bad) {
            C.due("soon", cat.soon(turn, -1), -1);
            C.due("soon", cat.soon(turn, 0), -1);
            C.due("worth", cat.worth(0, turn), -1);
            C.due("worth", cat.worth(turn, 0), -1);
            C.due("free", cat.free(turn), -1);
        }
        C.due("soon(0, -2)", cat.soon(0, -2), -1);
        C.due("soon(0, least)", cat.soon(0, Integer.MIN_VALUE), -1);
        C.due("worth(2, 0)", cat.worth(2, 0), -1);
        for (int h : new int[] {-1, 100001, Integer.MIN_VALUE, Integer.MAX_VALUE}) {
            C.due("fall", cat.fall(h), -1);
            C.due("saved", cat.saved(h), -1);
        }
        cat = new CatThatTurns();
        C.due("worth(1, 0)", cat.worth(1, 0), -1);
        C.due("free(2)", cat.free(2), -1);
        C.due("soon(180, -2), of two the first", cat.soon(180, -2), -1);
    }
}
