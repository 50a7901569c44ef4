/** Promises 9 to 14: ways of moves, where parts are behind them, what fails, what closes. */
public final class WaysTest {
    private static final Checks C = new Checks();

    public static void main(String[] args) {
        rows();
        joints();
        wags();
        loads();
        begunWith();
        failing();
        closing();
        wrongInputs();
        C.end();
    }

    private static void rows() {
        CatThatTurns cat = new CatThatTurns();
        for (int i = 1; i <= 60; i++) {
            C.due("move", cat.move(1, i % 19), i);
        }
        C.due("move 61", cat.move(1, 0), -3);
        C.due("move 61 that is none", cat.move(1, 19), -1);
        C.due("move of another way", cat.move(2, 18), 1);
        C.due("count(2)", cat.count(2), 61);
        C.due("noWay(0)", cat.noWay(0), 0);
        C.due("noWay(1)", cat.noWay(1), 60);
        C.due("noWay(1)", cat.noWay(1), 0);
        C.due("count(2)", cat.count(2), 1);
        C.due("move again", cat.move(1, 0), 1);
        for (int i = 2; i <= 60; i++) {
            cat.move(1, 0);
        }
        C.due("turn behind 60", cat.turn(1, 7, 60, 0), 7);
        C.due("run of 60", cat.run(1, 0), 60);
        C.due("run of none", cat.run(0, 0), 0);
        C.due("run of none", cat.run(0, 1), 1);
        C.due("run of none", cat.run(0, 2), 1);
        C.due("run of none", cat.run(0, 3), 1);
        C.due("spun of none", cat.spun(0), 0);
        C.due("times of none", cat.times(0, 1000), 0);
        C.due("turn of none", cat.turn(0, 99, 0, 1), 99);
        C.due("turn of none", cat.turn(0, 99, 1, 1), -4);
    }

    private static void joints() {
        // Loads 3, 2, 5 of 10: joint 0 turned by 20 turns part 0 back by 14, joint 1 by 7 back by 3 (3.5).
        CatThatTurns cat = Checks.laid("p1,3,9;p1,2,9;p1,5,9;j20;j7;");
        Checks.moves(cat, 0, 1, 3, 2, 2, 4);
        int[][] turns = {{0, 0, 0}, {346, 6, 6}, {343, 3, 10}, {357, 357, 4}, {11, 351, 358}, {14, 354, 354}};
        for (int t = 0; t <= 5; t++) {
            for (int part = 0; part < 3; part++) {
                C.due("turn(0, 0, " + t + ", " + part + ")", cat.turn(0, 0, t, part), turns[t][part]);
                C.due("turn(0, 350, " + t + ", " + part + ")", cat.turn(0, 350, t, part), (turns[t][part] + 350) % 360);
            }
        }
        C.due("turn(0, 0, 6, 0)", cat.turn(0, 0, 6, 0), -4);
        C.due("run(0, 3)", cat.run(0, 3), 0);
        Checks.moves(cat, 0, 1);
        C.due("run(0, 2)", cat.run(0, 2), 1);
        // Cut towards 0 either way: 3.5 back is 3, and 3.5 forth is 3.
        C.due("spun(0)", cat.spun(0), 0);
        C.due("count(2)", cat.count(2), 6);
    }

    private static void wags() {
        // Loads 9 of 10 ahead: a step of 120 turns part 0 back by 12.
        CatThatTurns cat = Checks.laid("p9,9,9;p1,1,1;w120;");
        Checks.moves(cat, 0, 1, 1, 1, 1);
        int[][] turns = {{0, 0}, {348, 108}, {336, 216}, {324, 324}, {312, 72}};
        for (int t = 0; t <= 4; t++) {
            C.due("turn part 0", cat.turn(0, 0, t, 0), turns[t][0]);
            C.due("turn part 1", cat.turn(0, 0, t, 1), turns[t][1]);
        }
        Checks.moves(cat, 1, 2, 2, 2);
        C.due("run(1, 2)", cat.run(1, 2), 1);
        C.due("spun(1)", cat.spun(1), 36);
        C.due("times(1, 9)", cat.times(1, 9), 324);
        C.due("times(1, 10)", cat.times(1, 10), 0);
        C.due("times(1, 1000)", cat.times(1, 1000), 0);
        for (int s : new int[] {30, 36, 40, 45, 60, 72, 90, 120}) {
            cat = Checks.laid("p1,1,1;p1,1,1;w" + s + ";");
            for (int i = 1; i <= 60; i++) {
                cat.move(2, 1);
                C.due("w" + s + " " + i + " steps", cat.run(2, 2), i % (360 / s) == 0 ? 1 : 0);
                C.due("w" + s + " " + i + " steps", cat.turn(2, 0, i, 1), i * (s - s / 2) % 360);
            }
            C.due("w" + s + " all", cat.run(2, 0), 60);
        }
    }

    private static void loads() {
        // 2 of 3 behind when part 0 is drawn in; 2 of 11 when it is stretched; 1 of 10 then.
        CatThatTurns cat = Checks.laid("p1,4,9;p1,2,5;j30;");
        Checks.moves(cat, 0, 10, 1, 12, 2, 13, 1, 15, 1, 11);
        int[] turns = {0, 0, 340, 340, 345, 345, 342, 342, 332, 332};
        for (int t = 0; t < turns.length; t++) {
            C.due("turn behind " + t, cat.turn(0, 0, t, 0), turns[t]);
        }
        C.due("turn of part 1", cat.turn(0, 0, 9, 1), 32);
        C.due("run(0, 1)", cat.run(0, 1), 1);
        C.due("run(0, 3)", cat.run(0, 3), 0);
        Checks.moves(cat, 0, 2, 2);
        C.due("run(0, 3)", cat.run(0, 3), 1);
        C.due("run(0, 2)", cat.run(0, 2), 0);
        C.due("times(0, 1)", cat.times(0, 1), -2);
        Checks.moves(cat, 0, 14);
        C.due("run(0, 2)", cat.run(0, 2), 1);
    }

    private static void begunWith() {
        // 25 by 10 is 2 a tick; stretched 25 by 14 is 1, and the tick of stretching counts so.
        CatThatTurns cat = Checks.laid("p5,5,9;p5,5,5;j10;l25;");
        Checks.moves(cat, 0, 0, 12, 0, 1, 11, 2);
        int[] turns = {0, 2, 3, 4, 2, 4, 11};
        for (int t = 0; t < turns.length; t++) {
            C.due("turn behind " + t, cat.turn(0, 0, t, 0), turns[t]);
        }
        C.due("spun(0)", cat.spun(0), 11);
        C.due("times(0, 2)", cat.times(0, 2), 22);
        C.due("times(0, 100)", cat.times(0, 100), 1100 % 360);
        // Cut towards 0: -25 by 10 is -2. The turn back is cut for itself: -(5 by 1) + -2.
        cat = Checks.laid("p5,5,9;p5,5,5;j10;l-25;");
        Checks.moves(cat, 0, 0, 1, 2);
        C.due("turn(0, 0, 1, 0)", cat.turn(0, 0, 1, 0), 358);
        C.due("turn(0, 0, 2, 0)", cat.turn(0, 0, 2, 0), 351);
        C.due("turn(0, 0, 3, 0)", cat.turn(0, 0, 3, 0), 354);
        // 3 degrees by half is 1 back, 9 by 2 is 4 more: two cuts, not one.
        cat = Checks.laid("p1,1,1;p1,1,1;j3;l9;");
        Checks.moves(cat, 0, 1);
        C.due("turn(0, 0, 1, 0)", cat.turn(0, 0, 1, 0), 3);
        cat = Checks.laid("p1,1,1;p1,1,1;j3;l-9999;");
        for (int i = 0; i < 60; i++) {
            cat.move(0, 0);
        }
        C.due("spun(0)", cat.spun(0), Math.floorMod(-4999 * 60, 360));
        C.due("times(0, 1000)", cat.times(0, 1000), Math.floorMod(-4999 * 60 * 1000, 360));
    }

    private static void fails(String text, int done, int... moves) {
        CatThatTurns cat = Checks.laid(text);
        Checks.moves(cat, 3, moves);
        Checks.moves(cat, 3, 0, 0);
        C.due("run(3, 0) " + text, cat.run(3, 0), done);
        C.due("run(3, 1) " + text, cat.run(3, 1), done == moves.length + 2 ? 1 : 0);
        C.due("turn " + text, cat.turn(3, 0, done, 0) == -4 ? 1 : 0, 0);
        C.due("turn beyond " + text, cat.turn(3, 0, done + 1, 0), -4);
    }

    private static void failing() {
        String two = "p1,1,1;p1,1,1;j10;";
        String three = "p1,1,1;p1,1,1;p1,1,1;j10;w120;";
        for (int move = 3; move <= 9; move++) {
            fails(two, 0, move);
            fails(three, move < 5 ? 3 : 0, move);
        }
        for (int move = 10; move <= 18; move++) {
            boolean rests = (move - 10) % 3 == 1;
            fails(two, move >= 16 || rests ? 0 : 3, move);
            fails(three, rests ? 0 : 3, move);
            fails(three, rests ? 0 : 1, move, move);
        }
        fails(two, 2, 1, 1, 1);
        fails(two, 2, 2, 2, 2);
        fails(two, 7, 1, 1, 2, 2, 2);
        fails(three, 6, 3, 3, 3, 3);
        fails(three, 6, 4, 4, 4, 4);
        CatThatTurns cat = Checks.laid(two);
        // What is done ahead of the fault counts: SPUN, STRAIGHT; it does not close, even at rest.
        Checks.moves(cat, 0, 1, 5, 2);
        C.due("spun(0)", cat.spun(0), 355);
        C.due("run(0, 3)", cat.run(0, 3), 0);
        Checks.moves(cat, 1, 1, 2, 11);
        C.due("run(1, 0)", cat.run(1, 0), 2);
        C.due("run(1, 3)", cat.run(1, 3), 1);
        C.due("run(1, 2)", cat.run(1, 2), 0);
        C.due("times(1, 1)", cat.times(1, 1), -2);
    }

    private static void closing() {
        CatThatTurns cat = Checks.laid("p1,1,1;p1,1,1;p1,1,1;j10;w120;");
        Checks.moves(cat, 0, 18);
        C.due("run(0, 2)", cat.run(0, 2), 0);
        C.due("run(0, 3)", cat.run(0, 3), 1);
        Checks.moves(cat, 0, 17);
        C.due("run(0, 2)", cat.run(0, 2), 1);
        Checks.moves(cat, 0, 3);
        C.due("run(0, 2)", cat.run(0, 2), 0);
        C.due("run(0, 3)", cat.run(0, 3), 0);
        Checks.moves(cat, 0, 3, 3);
        C.due("run(0, 2)", cat.run(0, 2), 1);
        // 120 by a third is 40 back, three times.
        C.due("spun(0)", cat.spun(0), 240);
        C.due("times(0, 2)", cat.times(0, 2), 120);
    }

    private static void wrongInputs() {
        CatThatTurns cat = new CatThatTurns();
        for (int way : new int[] {-1, 4, Integer.MIN_VALUE, Integer.MAX_VALUE}) {
            C.due("move", cat.move(way, 0), -1);
            C.due("noWay", cat.noWay(way), -1);
            C.due("turn", cat.turn(way, 0, 0, 0), -1);
            C.due("run", cat.run(way, 0), -1);
            C.due("spun", cat.spun(way), -1);
            C.due("times", cat.times(way, 1), -1);
        }
        for (int number : new int[] {-1, 19, Integer.MIN_VALUE, Integer.MAX_VALUE}) {
            C.due("move", cat.move(0, number), -1);
            C.due("run", cat.run(0, number), -1);
            C.due("turn of part", cat.turn(0, 0, 0, number), -1);
        }
        C.due("run", cat.run(0, 4), -1);
        C.due("turn", cat.turn(0, -1, 0, 0), -1);
        C.due("turn", cat.turn(0, 360, 0, 0), -1);
        C.due("turn", cat.turn(0, 359, 0, 0), 359);
        C.due("turn", cat.turn(0, 0, -1, 0), -1);
        C.due("turn", cat.turn(0, 0, 61, 0), -1);
        C.due("turn", cat.turn(0, 0, 60, 0), -4);
        C.due("turn", cat.turn(0, 0, 0, 2), -1);
        C.due("turn, of two the first", cat.turn(0, 0, 60, 2), -1);
        C.due("times", cat.times(0, 0), -1);
        C.due("times", cat.times(0, -1), -1);
        C.due("times", cat.times(0, 1001), -1);
        C.due("count(2)", cat.count(2), 0);
        cat.move(0, 1);
        C.due("times, of two the first", cat.times(0, 1001), -1);
        C.due("times", cat.times(0, 1), -2);
    }
}
