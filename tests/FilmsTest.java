/** Promises 21 to 30: pictures, may, looked, pushed, heads, down, what is kept, counts. */
public final class FilmsTest {
    private static final Checks C = new Checks();

    public static void main(String[] args) {
        pictures();
        maying();
        looking();
        pushing();
        heads();
        late();
        keeping();
        wrongInputs();
        C.end();
    }

    private static void pictures() {
        CatThatTurns cat = new CatThatTurns();
        int[][] bad = {{-1, 0, 0, 0}, {61, 0, 0, 0}, {0, -1, 0, 0}, {0, 2, 0, 0}, {0, 0, -1, 0}, {0, 0, 360, 0},
            {0, 0, 0, -1}, {0, 0, 0, 91}, {Integer.MIN_VALUE, 0, 0, 0}, {0, Integer.MAX_VALUE, 0, 0}};
        for (int[] p : bad) {
            C.due("picture", cat.picture(p[0], p[1], p[2], p[3]), -1);
        }
        C.due("count(3)", cat.count(3), 0);
        for (int i = 1; i <= 30; i++) {
            C.due("picture " + i, cat.picture(2 * i, i % 2, 359, 3 * i), i);
        }
        C.due("picture 31", cat.picture(60, 1, 359, 90), -3);
        for (int[] p : bad) {
            C.due("picture 31 that is none", cat.picture(p[0], p[1], p[2], p[3]), -1);
        }
        C.due("count(3)", cat.count(3), 30);
        C.due("noFilm()", cat.noFilm(), 30);
        C.due("noFilm()", cat.noFilm(), 0);
        C.due("picture", cat.picture(0, 0, 0, 0), 1);
    }

    private static void maying() {
        CatThatTurns cat = Checks.laid("p1,1,1;p1,1,1;j10;");
        Checks.moves(cat, 0, 1, 1, 1, 2);
        C.due("may without a film", cat.may(0, 5), 1);
        cat.picture(1, 1, 5, 0);
        C.due("may(0, 0)", cat.may(0, 0), 1);
        C.due("may(0, 1)", cat.may(0, 1), 0);
        C.due("may(0, 359)", cat.may(0, 359), 0);
        C.due("may(1, 0), too short", cat.may(1, 0), 0);
        cat.picture(2, 0, 350, 0);
        C.due("may(0, 0)", cat.may(0, 0), 1);
        // The third move fails; no picture of it may be of this way.
        cat.picture(3, 0, 350, 90);
        C.due("may(0, 0)", cat.may(0, 0), 0);
        C.due("looked(0, 0)", cat.looked(0, 0), 0);
        C.due("looked(0, 1)", cat.looked(0, 1), -4);
        cat.noFilm();
        cat.picture(0, 1, 350, 20);
        for (int turn = 0; turn < 360; turn++) {
            C.due("may(2, " + turn + ")", cat.may(2, turn), turn <= 10 || turn >= 330 ? 1 : 0);
        }
        cat = Checks.laid("p1,1,1;p1,1,1;j10;");
        cat.picture(0, 1, 10, 20);
        for (int turn = 0; turn < 360; turn++) {
            C.due("may(2, " + turn + ")", cat.may(2, turn), turn <= 30 || turn >= 350 ? 1 : 0);
        }
        // All must be so, in whatever order and of one tick, too.
        cat.picture(0, 0, 40, 20);
        C.due("looked(2, 0)", cat.looked(2, 0), 11);
        C.due("looked(2, 1)", cat.looked(2, 1), 20);
        // Begun with 4: 2 a tick.
        cat = Checks.laid("p1,1,1;p1,1,1;j10;l4;");
        Checks.moves(cat, 0, 0, 0);
        cat.picture(2, 1, 3, 0);
        C.due("may(0, 359)", cat.may(0, 359), 1);
        C.due("may(0, 3)", cat.may(0, 3), 0);
    }

    private static void looking() {
        CatThatTurns cat = new CatThatTurns();
        C.due("looked(0, 0)", cat.looked(0, 0), 360);
        C.due("looked(0, 1)", cat.looked(0, 1), 0);
        cat.picture(0, 0, 180, 90);
        C.due("looked(0, 0)", cat.looked(0, 0), 181);
        C.due("looked(0, 1)", cat.looked(0, 1), 90);
        cat.picture(0, 1, 0, 90);
        C.due("looked(0, 0)", cat.looked(0, 0), 2);
        C.due("looked(0, 1)", cat.looked(0, 1), 90);
        cat.picture(0, 1, 0, 89);
        C.due("looked(0, 0)", cat.looked(0, 0), 0);
        C.due("looked(0, 1)", cat.looked(0, 1), -4);
    }

    private static void pushing() {
        // Two ticks, L by 2 each: 4 to 5 and -5 to -4 turn 4; 2 to 3 turn 2.
        CatThatTurns cat = Checks.laid("p1,1,1;p1,1,1;j10;l50;");
        Checks.moves(cat, 0, 0, 0);
        C.due("pushed without a film", cat.pushed(0, 0, 200, 0), 401);
        C.due("pushed without a film", cat.pushed(0, 0, 200, 1), 0);
        C.due("pushed without a film", cat.pushed(0, 0, 0, 0), 1);
        cat.picture(2, 0, 4, 0);
        C.due("pushed(0, 0, 3, 0)", cat.pushed(0, 0, 3, 0), 0);
        C.due("pushed(0, 0, 3, 1)", cat.pushed(0, 0, 3, 1), -10004);
        C.due("pushed(0, 0, 4, 0)", cat.pushed(0, 0, 4, 0), 1);
        C.due("pushed(0, 0, 20, 0)", cat.pushed(0, 0, 20, 0), 2);
        C.due("pushed(0, 0, 20, 1)", cat.pushed(0, 0, 20, 1), 4);
        C.due("pushed(0, 8, 20, 1)", cat.pushed(0, 8, 20, 1), -4);
        // From 5 it is never even.
        C.due("pushed(0, 5, 200, 0)", cat.pushed(0, 5, 200, 0), 0);
        C.due("pushed(0, 4, 200, 0)", cat.pushed(0, 4, 200, 0), 3);
        C.due("pushed(0, 4, 200, 1)", cat.pushed(0, 4, 200, 1), 0);
        C.due("begun(0)", cat.begun(0), 50);
        C.due("may(0, 0) with its own", cat.may(0, 0), 0);
        C.due("may(0, 314) with its own", cat.may(0, 314), 1);
        C.due("pushed(1, 0, 200, 0), too short", cat.pushed(1, 0, 200, 0), 0);
        C.due("pushed(1, 0, 200, 1), too short", cat.pushed(1, 0, 200, 1), -10004);
        // Of two as near the lower: 180 off either way behind 180 degrees of turning.
        cat.noFilm();
        cat.noWay(0);
        Checks.moves(cat, 0, 0, 0, 0, 0, 0, 0, 0, 0, 0);
        cat.picture(9, 0, 180, 0);
        C.due("pushed(0, 0, 200, 1)", cat.pushed(0, 0, 200, 1), -40);
        C.due("pushed(0, 0, 200, 0)", cat.pushed(0, 0, 200, 0), 2 * (2 + 2 + 1));
        C.due("pushed(0, 0, 40, 0)", cat.pushed(0, 0, 40, 0), 2);
        C.due("pushed(0, 0, 39, 0)", cat.pushed(0, 0, 39, 0), 0);
        C.due("pushed(0, 9, 200, 1)", cat.pushed(0, 9, 200, 1), 38);
    }

    private static void heads() {
        CatThatTurns cat = Checks.laid("p9,9,9;p1,1,1;w120;e5;");
        C.due("head(5, 0)", cat.head(5, 0), 0);
        C.due("head(355, 0)", cat.head(355, 0), 0);
        C.due("head(6, 0)", cat.head(6, 0), -4);
        C.due("head(354, 0)", cat.head(354, 0), -4);
        C.due("down(0)", cat.down(0), 11);
        Checks.moves(cat, 0, 1, 1, 1);
        Checks.moves(cat, 1, 2, 2, 2, 2, 2, 2);
        C.due("head(36, 0)", cat.head(36, 0), 0);
        C.due("head(288, 0)", cat.head(288, 0), 1);
        C.due("head(0, 0)", cat.head(0, 0), 2);
        C.due("down(0)", cat.down(0), 33);
        // Not straight in the end, or failing: no head. Straight, but not at rest, is.
        Checks.moves(cat, 0, 1);
        C.due("head(36, 0)", cat.head(36, 0), -4);
        C.due("down(0)", cat.down(0), 22);
        Checks.moves(cat, 1, 10);
        C.due("head(288, 0)", cat.head(288, 0), 1);
        Checks.moves(cat, 1, 10, 0);
        C.due("head(288, 0)", cat.head(288, 0), -4);
        C.due("down(0)", cat.down(0), 11);
        Checks.moves(cat, 2, 0);
        C.due("head(0, 0)", cat.head(0, 0), 2);
        Checks.moves(cat, 2, 5);
        C.due("head(0, 0)", cat.head(0, 0), 3);
        Checks.moves(cat, 3, 3);
        C.due("head(0, 0)", cat.head(0, 0), -4);
        C.due("down(0)", cat.down(0), 0);
        // Turns from which two ways come right count once.
        cat = Checks.laid("p9,9,9;p1,1,1;w120;e90;");
        Checks.moves(cat, 0, 1, 1, 1);
        C.due("down(0)", cat.down(0), 181 + 36);
        C.due("head(0, 0)", cat.head(0, 0), 0);
        C.due("head(300, 0)", cat.head(300, 0), 1);
    }

    private static void late() {
        // At rest 7 by 3 is 2 a tick; drawn in it is 3.
        CatThatTurns cat = Checks.laid("p1,2,1;p1,1,1;j10;l7;e0;");
        C.due("head(0, 0)", cat.head(0, 0), 0);
        C.due("head(358, 1)", cat.head(358, 1), 0);
        C.due("head(240, 60)", cat.head(240, 60), 0);
        C.due("head(240, 59)", cat.head(240, 59), -4);
        Checks.moves(cat, 0, 10, 0);
        C.due("head(354, 0)", cat.head(354, 0), 0);
        C.due("head(352, 1)", cat.head(352, 1), 0);
        C.due("head(234, 60)", cat.head(234, 60), 0);
        C.due("down(60)", cat.down(60), 2);
        for (int i = 2; i < 60; i++) {
            cat.move(0, 0);
        }
        C.due("head of 120 ticks", cat.head(Math.floorMod(-180 - 120, 360), 60), 0);
        for (int n = 0; n <= 60; n++) {
            C.due("down(" + n + ")", cat.down(n), 2);
        }
    }

    private static void keeping() {
        CatThatTurns cat = new CatThatTurns();
        C.due("back()", cat.back(), -2);
        Checks.moves(cat, 0, 1, 2);
        Checks.moves(cat, 3, 10);
        cat.picture(1, 1, 5, 0);
        C.due("keep()", cat.keep(), 1);
        Checks.moves(cat, 0, 12);
        cat.noWay(3);
        cat.picture(0, 0, 1, 1);
        C.due("keep()", cat.keep(), 2);
        C.due("keep()", cat.keep(), -3);
        C.due("count(4)", cat.count(4), 2);
        C.due("count(2)", cat.count(2), 3);
        C.due("count(3)", cat.count(3), 2);
        for (int way = 0; way < 4; way++) {
            cat.noWay(way);
        }
        cat.noFilm();
        Checks.moves(cat, 0, 5, 5, 5, 5);
        C.due("back()", cat.back(), 1);
        C.due("count(2)", cat.count(2), 3);
        C.due("count(3)", cat.count(3), 2);
        C.due("run(0, 0)", cat.run(0, 0), 3);
        C.due("run(0, 2)", cat.run(0, 2), 0);
        C.due("may(0, 0)", cat.may(0, 0), 1);
        C.due("may(0, 3)", cat.may(0, 3), 0);
        // Every number of every picture comes back, though others were taken since.
        cat.keep();
        cat.noFilm();
        for (int i = 0; i < 5; i++) {
            cat.picture(60, 1, 200, 90);
        }
        C.due("back()", cat.back(), 1);
        C.due("count(3)", cat.count(3), 2);
        C.due("looked(0, 0)", cat.looked(0, 0), 1);
        C.due("looked(0, 1)", cat.looked(0, 1), 0);
        // What is taken back may be changed; what is kept below it stays.
        Checks.moves(cat, 0, 0);
        cat.noFilm();
        C.due("keep()", cat.keep(), 2);
        C.due("back()", cat.back(), 1);
        C.due("count(2)", cat.count(2), 4);
        C.due("back()", cat.back(), 0);
        C.due("count(2)", cat.count(2), 3);
        C.due("count(3)", cat.count(3), 1);
        C.due("count(4)", cat.count(4), 0);
        C.due("run(0, 0)", cat.run(0, 0), 2);
        C.due("run(0, 2)", cat.run(0, 2), 1);
        C.due("run(3, 3)", cat.run(3, 3), 1);
        C.due("noWay(3)", cat.noWay(3), 1);
        C.due("may(0, 0)", cat.may(0, 0), 1);
        C.due("may(0, 1)", cat.may(0, 1), 0);
        C.due("back()", cat.back(), -2);
        C.due("count(2)", cat.count(2), 2);
        // The text and what is laid are not kept.
        cat.keep();
        Checks.put(cat, "p1,1,1;");
        C.due("back()", cat.back(), 0);
        C.due("count(1)", cat.count(1), 7);
        cat.keep();
        Checks.put(cat, "p1,1,1;p1,1,1;j5;");
        C.due("lay()", cat.lay(), 2);
        C.due("back()", cat.back(), -2);
    }

    private static void wrongInputs() {
        CatThatTurns cat = new CatThatTurns();
        cat.picture(60, 0, 0, 0);
        for (int way : new int[] {-1, 4, Integer.MIN_VALUE, Integer.MAX_VALUE}) {
            C.due("may", cat.may(way, 0), -1);
            C.due("looked", cat.looked(way, 0), -1);
            C.due("pushed", cat.pushed(way, 0, 0, 0), -10001);
        }
        for (int turn : new int[] {-1, 360, Integer.MIN_VALUE, Integer.MAX_VALUE}) {
            C.due("may", cat.may(0, turn), -1);
            C.due("pushed", cat.pushed(0, turn, 0, 0), -10001);
            C.due("head", cat.head(turn, 0), -1);
        }
        for (int n : new int[] {-1, 61, Integer.MIN_VALUE, Integer.MAX_VALUE}) {
            C.due("head", cat.head(180, n), -1);
            C.due("down", cat.down(n), -1);
        }
        for (int what : new int[] {-1, 2, Integer.MIN_VALUE, Integer.MAX_VALUE}) {
            C.due("looked", cat.looked(0, what), -1);
            C.due("pushed", cat.pushed(0, 0, 0, what), -10001);
        }
        for (int m : new int[] {-1, 201, Integer.MIN_VALUE, Integer.MAX_VALUE}) {
            C.due("pushed", cat.pushed(0, 0, m, 1), -10001);
        }
        for (int what : new int[] {-1, 5, Integer.MIN_VALUE, Integer.MAX_VALUE}) {
            C.due("count", cat.count(what), -1);
        }
    }
}
