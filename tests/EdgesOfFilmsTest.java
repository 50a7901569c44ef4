/** Films, heads, what is kept, promises 21 to 30: each sentence that names an edge, by itself. */
public final class EdgesOfFilmsTest {
    private static final int BAD = -1, NO = -2, FULL = -3, NONE = -4;
    private static final int BAD_PUSHED = -10001, NONE_PUSHED = -10004;
    private static final int[] NO_TURNS = {Integer.MIN_VALUE, -360, -1, 360, 361, Integer.MAX_VALUE};
    private static final int[] NO_WAYS = {Integer.MIN_VALUE, -1, 4, 5, Integer.MAX_VALUE};
    private static final Checks C = new Checks();

    public static void main(String[] args) {
        thirtyPictures();
        numbersOfAPicture();
        noPictures();
        asManyMovesAsTheTick();
        noneOfThemFails();
        offByTheDoubt();
        allOfThePictures();
        lookedFromAllOrNone();
        pushedFromLessMToM();
        nearestZero();
        pushedInPlaceOfItsOwn();
        lowestWay();
        straightAndRight();
        downFromAllOrNone();
        lateByTicks();
        keptTwoAtMost();
        backToNone();
        keptIsACopy();
        counts();
        waysAndTurnsThatAreNone();
        C.end();
    }

    private static void row(CatThatTurns cat, int way, int move, int times) {
        for (int i = 0; i < times; i++) {
            cat.move(way, move);
        }
    }

    /** "PICTURES, 30 at most", FULL: the 31st changes nothing; BAD is ahead of FULL. */
    private static void thirtyPictures() {
        CatThatTurns cat = new CatThatTurns();
        for (int i = 1; i <= 30; i++) {
            C.due("picture " + i, cat.picture(0, 0, 0, 90), i);
        }
        C.due("looked(0, 0)", cat.looked(0, 0), 181);
        C.due("picture 31", cat.picture(0, 0, 180, 0), FULL);
        C.due("picture 31 that is none", cat.picture(61, 0, 180, 0), BAD);
        C.due("picture 31 that is none", cat.picture(0, 0, 180, 91), BAD);
        C.due("count(3)", cat.count(3), 30);
        C.due("looked(0, 0)", cat.looked(0, 0), 181);
        C.due("noFilm()", cat.noFilm(), 30);
        C.due("picture anew", cat.picture(0, 0, 180, 0), 1);
        C.due("looked(0, 0)", cat.looked(0, 0), 1);
        // The thirtieth is looked at as the first is.
        cat.noFilm();
        for (int i = 1; i <= 29; i++) {
            cat.picture(0, i % 2, 90, 90);
        }
        C.due("looked(0, 0) by 29", cat.looked(0, 0), 181);
        C.due("picture 30", cat.picture(0, 1, 270, 90), 30);
        C.due("looked(0, 0) by 30", cat.looked(0, 0), 2);
    }

    private static void picture(int parts, int tick, int part, int turn, int doubt, int want) {
        CatThatTurns cat = parts == 2 ? new CatThatTurns() : Checks.laid("p1,1,1;p1,1,1;p1,1,1;j1;j1;");
        String call = "picture(" + tick + ", " + part + ", " + turn + ", " + doubt + ")";
        C.due(call, cat.picture(tick, part, turn, doubt), want);
        C.due("count(3) behind " + call, cat.count(3), want == BAD ? 0 : 1);
    }

    /** "of a TICK (0 to 60), a PART, a TURN (0 to 359), a doubt (0 to 90)". */
    private static void numbersOfAPicture() {
        for (int number : new int[] {Integer.MIN_VALUE, -90, -2, -1, 0, 1, 2, 3, 4, 59, 60, 61, 89, 90, 91, 180, 270, 358,
            359, 360, 361, Integer.MAX_VALUE}) {
            picture(2, number, 0, 0, 0, number >= 0 && number <= 60 ? 1 : BAD);
            picture(2, 0, number, 0, 0, number >= 0 && number <= 1 ? 1 : BAD);
            picture(3, 0, number, 0, 0, number >= 0 && number <= 2 ? 1 : BAD);
            picture(2, 0, 0, number, 0, number >= 0 && number <= 359 ? 1 : BAD);
            picture(2, 0, 0, 0, number, number >= 0 && number <= 90 ? 1 : BAD);
        }
        picture(3, 60, 2, 359, 90, 1);
        picture(3, 61, 3, 360, 91, BAD);
    }

    /** Promise 22, and an empty film: nothing speaks against any way from any turn. */
    private static void noPictures() {
        CatThatTurns cat = new CatThatTurns();
        C.due("noFilm() of none", cat.noFilm(), 0);
        cat.move(1, 11);
        cat.move(2, 1);
        for (int way = 0; way < 4; way++) {
            for (int turn : new int[] {0, 1, 180, 359}) {
                C.due("may without pictures", cat.may(way, turn), 1);
                C.due("pushed without pictures", cat.pushed(way, turn, 200, 0), 401);
                C.due("pushed without pictures", cat.pushed(way, turn, 200, 1), 0);
            }
            C.due("looked without pictures", cat.looked(way, 0), 360);
            C.due("looked without pictures", cat.looked(way, 1), 0);
        }
        cat.picture(0, 0, 0, 0);
        C.due("noFilm() of one", cat.noFilm(), 1);
        C.due("noFilm() of none", cat.noFilm(), 0);
        C.due("count(3)", cat.count(3), 0);
        C.due("count(2), the ways stay", cat.count(2), 2);
    }

    /** "behind as many MOVES as each PICTURE's TICK (it has so many": 0, its length, one more, 60. */
    private static void asManyMovesAsTheTick() {
        for (int tick = 0; tick <= 60; tick++) {
            CatThatTurns cat = Checks.laid("p1,1,1;p1,1,1;j1;l2;");
            cat.picture(tick, 0, tick, 0);
            for (int moves = 0; moves <= 60; moves++) {
                if (moves == 0 || moves == tick - 1 || moves == tick || moves == tick + 1 || moves == 60) {
                    cat.noWay(0);
                    row(cat, 0, 0, moves);
                    C.due("may of " + moves + " by tick " + tick, cat.may(0, 0), moves >= tick ? 1 : 0);
                    C.due("may from 1", cat.may(0, 1), 0);
                    C.due("looked", cat.looked(0, 1), moves >= tick ? 0 : NONE);
                }
            }
        }
    }

    /** "none of them FAILS": of those up to the tick; what comes behind it does not matter. */
    private static void noneOfThemFails() {
        for (int at = 0; at < 5; at++) {
            CatThatTurns cat = new CatThatTurns();
            for (int i = 0; i < 5; i++) {
                cat.move(0, i == at ? 18 : 0);
            }
            for (int tick = 0; tick <= 6; tick++) {
                cat.noFilm();
                cat.picture(tick, 1, 0, 90);
                C.due("may, fails at " + at + ", tick " + tick, cat.may(0, 0), tick <= at ? 1 : 0);
                C.due("looked, fails at " + at + ", tick " + tick, cat.looked(0, 0), tick <= at ? 181 : 0);
                C.due("pushed, fails at " + at + ", tick " + tick, cat.pushed(0, 0, 1, 0), tick <= at ? 3 : 0);
            }
        }
    }

    /** "off that TURN by the doubt at most (either way about)": past 0, too. */
    private static void offByTheDoubt() {
        CatThatTurns cat = new CatThatTurns();
        for (int turn : new int[] {0, 1, 45, 90, 180, 269, 270, 315, 358, 359}) {
            for (int doubt : new int[] {0, 1, 45, 89, 90}) {
                cat = new CatThatTurns();
                cat.picture(0, 1, turn, doubt);
                C.due("may, as told", cat.may(0, turn), 1);
                C.due("may, as much more", cat.may(0, (turn + doubt) % 360), 1);
                C.due("may, as much less", cat.may(0, (turn + 360 - doubt) % 360), 1);
                C.due("may, 1 too much more", cat.may(0, (turn + doubt + 1) % 360), 0);
                C.due("may, 1 too much less", cat.may(0, (turn + 359 - doubt) % 360), 0);
                C.due("may, upside down", cat.may(0, (turn + 180) % 360), 0);
                C.due("looked(0, 0)", cat.looked(0, 0), 2 * doubt + 1);
                boolean isAcross = turn - doubt <= 0 || turn + doubt >= 360;
                C.due("looked(0, 1)", cat.looked(0, 1), isAcross ? 0 : turn - doubt);
            }
        }
        // A later part that stands beyond the circle.
        cat = Checks.laid("p1,1,1;p1,1,1;j90;e0;");
        Checks.moves(cat, 0, 1, 1);
        cat.picture(2, 1, 89, 0);
        C.due("may(0, 359)", cat.may(0, 359), 1);
        C.due("looked(0, 0)", cat.looked(0, 0), 1);
        cat.noFilm();
        cat.picture(2, 0, 269, 0);
        C.due("may(0, 359)", cat.may(0, 359), 1);
        C.due("may(0, 0)", cat.may(0, 0), 0);
    }

    /** "each PICTURE": one that is not so is enough, the first, one amid, the last; one twice is as once. */
    private static void allOfThePictures() {
        for (int at = 0; at < 30; at++) {
            CatThatTurns cat = new CatThatTurns();
            for (int i = 0; i < 30; i++) {
                cat.picture(0, i % 2, i == at ? 7 : 5, 1);
            }
            C.due("may(0, 4)", cat.may(0, 4), 0);
            C.due("may(0, 5)", cat.may(0, 5), 0);
            C.due("may(0, 6)", cat.may(0, 6), 1);
            C.due("looked(0, 0)", cat.looked(0, 0), 1);
            C.due("looked(0, 1)", cat.looked(0, 1), 6);
        }
    }

    /** "LOOKED: from how many TURNS; the first", NONE. */
    private static void lookedFromAllOrNone() {
        CatThatTurns cat = new CatThatTurns();
        C.due("looked(0, 0) of all", cat.looked(0, 0), 360);
        C.due("looked(0, 1) of all", cat.looked(0, 1), 0);
        cat.picture(0, 0, 359, 0);
        C.due("looked(0, 0) of the last", cat.looked(0, 0), 1);
        C.due("looked(0, 1) of the last", cat.looked(0, 1), 359);
        cat.picture(0, 0, 358, 0);
        C.due("looked(0, 0) of none", cat.looked(0, 0), 0);
        C.due("looked(0, 1) of none", cat.looked(0, 1), NONE);
        for (int what : new int[] {-1, 2, Integer.MIN_VALUE, Integer.MAX_VALUE}) {
            C.due("looked(0, " + what + ")", cat.looked(0, what), BAD);
        }
        // Each way for itself, one behind the other, and with the L of the body, not of what was asked ahead.
        cat = Checks.laid("p1,1,1;p1,1,1;j1;l2;");
        for (int way = 0; way < 4; way++) {
            row(cat, way, 0, way);
        }
        cat.picture(0, 0, 200, 0);
        cat.picture(1, 0, 201, 0);
        cat.picture(2, 0, 202, 1);
        for (int round = 0; round < 2; round++) {
            for (int way = 3; way >= 0; way--) {
                C.due("looked(" + way + ", 1)", cat.looked(way, 1), way < 2 ? NONE : 200);
                C.due("pushed(" + (3 - way) + ")", cat.pushed(3 - way, 200, 3, 1), way < 2 ? 2 : NONE_PUSHED);
                C.due("looked(" + way + ", 0)", cat.looked(way, 0), way < 2 ? 0 : 1);
                C.due("may(" + (3 - way) + ", 200)", cat.may(3 - way, 200), way < 2 ? 1 : 0);
            }
        }
    }

    /** "L from -M to M (M 0 to 200)": both ends are in it. */
    private static void pushedFromLessMToM() {
        CatThatTurns cat = new CatThatTurns();
        for (int m = 0; m <= 200; m++) {
            // 1 by 2 is 0, so -1, 0, 1 turn nothing; every other two L turn 1 more.
            cat = Checks.laid("p1,1,1;p1,1,1;j1;");
            cat.move(0, 0);
            cat.picture(1, 0, 100, 0);
            C.due("pushed to 100 by " + m, cat.pushed(0, 0, m, 0), m < 200 ? 0 : 1);
            C.due("pushed to 100 by " + m, cat.pushed(0, 0, m, 1), m < 200 ? NONE_PUSHED : 200);
            C.due("pushed back to 100 by " + m, cat.pushed(0, 200, m, 0), m < 200 ? 0 : 1);
            C.due("pushed back to 100 by " + m, cat.pushed(0, 200, m, 1), m < 200 ? NONE_PUSHED : -200);
            C.due("pushed nowhere by " + m, cat.pushed(0, 100, m, 0), m == 0 ? 1 : 3);
            C.due("pushed 1 by " + m, cat.pushed(0, 99, m, 0), m < 2 ? 0 : m < 3 ? 1 : 2);
        }
        for (int m : new int[] {-1, 201, -200, Integer.MIN_VALUE, Integer.MAX_VALUE}) {
            C.due("pushed by " + m, cat.pushed(0, 0, m, 0), BAD_PUSHED);
            C.due("pushed by " + m, cat.pushed(0, 0, m, 1), BAD_PUSHED);
        }
        for (int what : new int[] {-1, 2, Integer.MIN_VALUE, Integer.MAX_VALUE}) {
            C.due("pushed, what " + what, cat.pushed(0, 0, 200, what), BAD_PUSHED);
        }
    }

    /** "the one nearest 0 (of two the lower); none": -1 and -4 are answers here, not BAD or NONE. */
    private static void nearestZero() {
        CatThatTurns cat = Checks.laid("p1,1,1;p1,1,1;j1;");
        row(cat, 0, 0, 60);
        // 60 ticks: L of 6 turns 180, so does -6; 12 and -12 come round. 7, -7 are as 6, -6.
        cat.picture(60, 0, 180, 0);
        C.due("pushed, of two", cat.pushed(0, 0, 5, 1), NONE_PUSHED);
        C.due("pushed, of two", cat.pushed(0, 0, 6, 1), -6);
        C.due("pushed, of two", cat.pushed(0, 0, 6, 0), 2);
        C.due("pushed, of two", cat.pushed(0, 0, 7, 0), 4);
        C.due("pushed, of two", cat.pushed(0, 180, 200, 1), 0);
        cat.noFilm();
        cat.picture(2, 0, 356, 0);
        C.due("pushed, the nearer", cat.pushed(0, 0, 200, 1), -4);
        C.due("pushed, the nearer", cat.pushed(0, 352, 200, 1), 4);
        CatThatTurns light = Checks.laid("p1,99,1;p1,1,1;j1;");
        Checks.moves(light, 0, 10);
        light.picture(1, 0, 358, 1);
        C.due("pushed by -2 or more", light.pushed(0, 0, 200, 1), -2);
        C.due("pushed by -2 or more", light.pushed(0, 0, 200, 0), 6);
        C.due("pushed by 0", light.pushed(0, 357, 200, 1), 0);
        C.due("pushed by 2 or more", light.pushed(0, 356, 200, 1), 2);
    }

    /** "(that L in place of its own)": its own stays, and is not in it unless it is so near. */
    private static void pushedInPlaceOfItsOwn() {
        CatThatTurns cat = Checks.laid("p1,1,1;p1,1,1;j1;l500;");
        cat.move(0, 0);
        cat.picture(1, 0, 250, 0);
        C.due("may with its own", cat.may(0, 0), 1);
        C.due("pushed", cat.pushed(0, 0, 200, 0), 0);
        C.due("pushed", cat.pushed(0, 0, 200, 1), NONE_PUSHED);
        C.due("pushed from 250", cat.pushed(0, 250, 200, 1), 0);
        C.due("pushed from 200", cat.pushed(0, 200, 200, 1), 100);
        C.due("may as ahead", cat.may(0, 0), 1);
        C.due("begun(0) as ahead", cat.begun(0), 500);
        C.due("spun(0) as ahead", cat.spun(0), 250);
    }

    /** "from a TURN the lowest WAY": of several the lowest, one that is empty is one, too. */
    private static void lowestWay() {
        for (int first = 0; first <= 4; first++) {
            CatThatTurns cat = new CatThatTurns();
            for (int way = 0; way < first; way++) {
                cat.move(way, 11);
            }
            C.due("head, " + first + " fail", cat.head(0, 0), first < 4 ? first : NONE);
            C.due("head, " + first + " fail", cat.head(180, 0), NONE);
            C.due("down, " + first + " fail", cat.down(0), first < 4 ? 21 : 0);
        }
    }

    /** "whose RUN does not FAIL and ends STRAIGHT and RIGHT": at the edges of E, either way about. */
    private static void straightAndRight() {
        for (int e : new int[] {0, 1, 10, 89, 90}) {
            CatThatTurns cat = Checks.laid("p1,1,1;p1,1,1;j1;e" + e + ";");
            C.due("head(e)", cat.head(e, 0), 0);
            C.due("head(e and 1)", cat.head(e + 1, 0), NONE);
            C.due("head(360 less e)", cat.head((360 - e) % 360, 0), 0);
            C.due("head(359 less e)", cat.head(359 - e, 0), NONE);
            C.due("down(0)", cat.down(0), 2 * e + 1);
        }
        CatThatTurns cat = new CatThatTurns();
        for (int way = 0; way < 4; way++) {
            cat.move(way, 1);
        }
        C.due("head, bent", cat.head(0, 0), NONE);
        Checks.moves(cat, 3, 2, 12);
        C.due("head, straight and stretched", cat.head(0, 0), 3);
        Checks.moves(cat, 3, 12);
        C.due("head, straight, but one fails", cat.head(0, 0), NONE);
        // It is right where it ends, not where it begins.
        cat = Checks.laid("p1,1,1;p1,1,1;j1;l10;e0;");
        for (int way = 0; way < 4; way++) {
            row(cat, way, 0, way + 1);
        }
        C.due("head(0, 0)", cat.head(0, 0), NONE);
        C.due("head(355, 0)", cat.head(355, 0), 0);
        C.due("head(340, 0)", cat.head(340, 0), 3);
        C.due("down(0)", cat.down(0), 4);
    }

    /** "DOWN: from how many TURNS there is one": 0 to 360, each turn once. */
    private static void downFromAllOrNone() {
        CatThatTurns cat = Checks.laid("p1,1,1;p1,1,1;w90;e90;");
        C.due("down(0)", cat.down(0), 181);
        Checks.moves(cat, 1, 1, 1, 1, 1);
        C.due("down(0)", cat.down(0), 360);
        for (int turn = 0; turn < 360; turn++) {
            C.due("head(" + turn + ", 0)", cat.head(turn, 0), turn <= 90 || turn >= 270 ? 0 : 1);
        }
        for (int way = 0; way < 4; way++) {
            cat.move(way, 1);
        }
        C.due("down(0) of none", cat.down(0), 0);
    }

    /** "LATE by n TICKS (0 to 60): the same, n TICKS of nothing ahead". */
    private static void lateByTicks() {
        CatThatTurns cat = Checks.laid("p1,2,1;p1,1,1;j1;l-3;e0;");
        for (int n = 0; n <= 60; n++) {
            C.due("head late by " + n, cat.head(n, n), 0);
            C.due("head late by " + n, cat.head(n + 1, n), NONE);
            C.due("down late by " + n, cat.down(n), 1);
        }
        for (int n : new int[] {-1, 61, Integer.MIN_VALUE, Integer.MAX_VALUE}) {
            C.due("head late by " + n, cat.head(0, n), BAD);
            C.due("head late by " + n, cat.head(180, n), BAD);
            C.due("down late by " + n, cat.down(n), BAD);
        }
        // 60 ahead and 60 of its own are told, too; ahead it is at rest, whatever its poses then.
        Checks.moves(cat, 0, 10);
        row(cat, 0, 0, 59);
        C.due("head of 60 late by 60", cat.head((60 + 60) % 360, 60), 0);
        C.due("count(2), the ways stay", cat.count(2), 60);
        cat = Checks.laid("p1,2,1;p1,1,1;j1;l6;e0;");
        cat.move(0, 10);
        // 3 in its own tick, by loads of 2; 2 in each ahead, by loads of 3.
        C.due("head late by 1", cat.head(355, 1), 0);
        C.due("head late by 60", cat.head(237, 60), 0);
        // Far more than a circle.
        cat = Checks.laid("p1,1,1;p1,1,1;j1;l9999;e0;");
        C.due("head late by 60", cat.head(Math.floorMod(-60 * 4999, 360), 60), 0);
        cat = Checks.laid("p1,1,1;p1,1,1;j1;l-9999;e0;");
        C.due("head late by 60", cat.head(60 * 4999 % 360, 60), 0);
    }

    /** "2 at most", FULL: the third changes nothing. */
    private static void keptTwoAtMost() {
        CatThatTurns cat = new CatThatTurns();
        cat.move(0, 1);
        C.due("keep()", cat.keep(), 1);
        cat.move(0, 2);
        C.due("keep()", cat.keep(), 2);
        cat.move(0, 0);
        cat.picture(0, 0, 0, 0);
        for (int i = 0; i < 3; i++) {
            C.due("keep()", cat.keep(), FULL);
            C.due("count(4)", cat.count(4), 2);
        }
        C.due("count(2)", cat.count(2), 3);
        C.due("back()", cat.back(), 1);
        C.due("count(2)", cat.count(2), 2);
        C.due("count(3)", cat.count(3), 0);
        C.due("keep() again", cat.keep(), 2);
        C.due("keep() again", cat.keep(), FULL);
        C.due("back()", cat.back(), 1);
        C.due("back()", cat.back(), 0);
        C.due("count(2)", cat.count(2), 1);
    }

    /** Promise 29: "NO": nothing is kept, at first, behind the last one, when a text is laid. */
    private static void backToNone() {
        CatThatTurns cat = new CatThatTurns();
        cat.move(0, 1);
        cat.picture(1, 1, 1, 1);
        C.due("back() at first", cat.back(), NO);
        C.due("count(2)", cat.count(2), 1);
        C.due("count(3)", cat.count(3), 1);
        cat.keep();
        C.due("back()", cat.back(), 0);
        C.due("back() behind the last", cat.back(), NO);
        C.due("count(2)", cat.count(2), 1);
        C.due("count(3)", cat.count(3), 1);
        cat.keep();
        cat.keep();
        Checks.put(cat, "p1,1,1;p1,1,1;j10;");
        cat.lay();
        C.due("back() behind lay", cat.back(), NO);
        C.due("count(2)", cat.count(2), 0);
        C.due("keep()", cat.keep(), 1);
    }

    /** "KEPT are WAYS, PICTURES", empty ones and full ones: as they were, whatever came since. */
    private static void keptIsACopy() {
        CatThatTurns cat = new CatThatTurns();
        C.due("keep() of nothing", cat.keep(), 1);
        for (int way = 0; way < 4; way++) {
            row(cat, way, 0, 59);
            cat.move(way, 10 + 2 * way);
        }
        for (int i = 0; i < 30; i++) {
            cat.picture(60, 1, 90, i == 29 ? 1 : 90);
        }
        C.due("keep() of all", cat.keep(), 2);
        for (int way = 0; way < 4; way++) {
            cat.noWay(way);
            row(cat, way, 1, 5);
        }
        cat.noFilm();
        cat.picture(0, 0, 0, 0);
        C.due("back() to all", cat.back(), 1);
        C.due("count(2)", cat.count(2), 240);
        C.due("count(3)", cat.count(3), 30);
        C.due("move 61", cat.move(3, 0), FULL);
        C.due("picture 31", cat.picture(0, 0, 0, 0), FULL);
        int[] done = {60, 60, 59, 59};
        for (int way = 0; way < 4; way++) {
            C.due("run(" + way + ", 0)", cat.run(way, 0), done[way]);
            C.due("looked(" + way + ", 0)", cat.looked(way, 0), done[way] == 60 ? 3 : 0);
            C.due("looked(" + way + ", 1)", cat.looked(way, 1), done[way] == 60 ? 89 : NONE);
        }
        C.due("back() to nothing", cat.back(), 0);
        C.due("count(2)", cat.count(2), 0);
        C.due("count(3)", cat.count(3), 0);
        for (int way = 0; way < 4; way++) {
            C.due("noWay(" + way + ")", cat.noWay(way), 0);
        }
        // Keeping changes nothing of what is kept.
        cat.move(0, 12);
        cat.keep();
        C.due("run(0, 0)", cat.run(0, 0), 1);
        C.due("run(0, 2)", cat.run(0, 2), 0);
    }

    /** Promise 30: 0 to 4, each at its least and at its most. */
    private static void counts() {
        CatThatTurns cat = new CatThatTurns();
        int[] least = {2, 0, 0, 0, 0};
        for (int what = 0; what <= 4; what++) {
            C.due("count(" + what + ") at first", cat.count(what), least[what]);
        }
        Checks.put(cat, "p1,1,1;p1,1,1;p1,1,1;j1;w30;");
        cat.lay();
        while (cat.count(1) < 120) {
            cat.write(1, 0);
        }
        for (int way = 0; way < 4; way++) {
            row(cat, way, 0, 61);
        }
        for (int i = 0; i < 31; i++) {
            cat.picture(0, 0, 0, 0);
        }
        cat.keep();
        cat.keep();
        cat.keep();
        int[] most = {3, 120, 240, 30, 2};
        for (int what = 0; what <= 4; what++) {
            C.due("count(" + what + ") at most", cat.count(what), most[what]);
        }
        for (int what : new int[] {-1, 5, Integer.MIN_VALUE, Integer.MAX_VALUE}) {
            C.due("count(" + what + ")", cat.count(what), BAD);
        }
    }

    /** Ways are 0 to 3, turns 0 to 359: BAD beyond, of all calls here that take them. */
    private static void waysAndTurnsThatAreNone() {
        CatThatTurns cat = new CatThatTurns();
        for (int way : NO_WAYS) {
            C.due("may(" + way + ", 0)", cat.may(way, 0), BAD);
            C.due("looked(" + way + ", 0)", cat.looked(way, 0), BAD);
            C.due("looked(" + way + ", 1)", cat.looked(way, 1), BAD);
            C.due("pushed(" + way + ", 0, 0, 0)", cat.pushed(way, 0, 0, 0), BAD_PUSHED);
        }
        for (int turn : NO_TURNS) {
            C.due("may(0, " + turn + ")", cat.may(0, turn), BAD);
            C.due("pushed(0, " + turn + ", 0, 0)", cat.pushed(0, turn, 0, 0), BAD_PUSHED);
            C.due("head(" + turn + ", 0)", cat.head(turn, 0), BAD);
        }
        // Of several the first: BAD where there would be none, too.
        cat.picture(60, 0, 0, 0);
        cat.move(0, 11);
        C.due("looked(4, 1)", cat.looked(4, 1), BAD);
        C.due("pushed(0, 360, 0, 1)", cat.pushed(0, 360, 0, 1), BAD_PUSHED);
        C.due("pushed(0, 0, 201, 1)", cat.pushed(0, 0, 201, 1), BAD_PUSHED);
        for (int way = 1; way < 4; way++) {
            cat.move(way, 11);
        }
        C.due("head(0, 61)", cat.head(0, 61), BAD);
        C.due("head(360, 0)", cat.head(360, 0), BAD);
        C.due("head(0, 0)", cat.head(0, 0), NONE);
    }
}
