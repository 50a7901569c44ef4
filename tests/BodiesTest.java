/** Promises 1 to 8: a new object, the text, its faults, what is laid. */
public final class BodiesTest {
    private static final Checks C = new Checks();

    public static void main(String[] args) {
        newObject();
        writing();
        partsAndFaults();
        jointsAndFaults();
        numbersAndFaults();
        laying();
        layingAnew();
        layingAlmostTheSame();
        C.end();
    }

    private static void newObject() {
        CatThatTurns cat = new CatThatTurns();
        int[] counts = {2, 0, 0, 0, 0};
        for (int i = 0; i < 5; i++) {
            C.due("new count(" + i + ")", cat.count(i), counts[i]);
        }
        for (int i = 0; i < 6; i++) {
            C.due("new load", cat.load(i / 3, i % 3), 1);
        }
        C.due("new joint(0, 0)", cat.joint(0, 0), 10);
        C.due("new joint(0, 1)", cat.joint(0, 1), 0);
        C.due("new begun(0)", cat.begun(0), 0);
        C.due("new begun(1)", cat.begun(1), 10);
        C.due("new fault()", cat.fault(), -4);
        C.due("new lay()", cat.lay(), -2);
        C.due("new wipe()", cat.wipe(), 0);
        C.due("new count(0)", cat.count(0), 2);
        for (int way = 0; way < 4; way++) {
            C.due("new noWay", cat.noWay(way), 0);
        }
        C.due("new noFilm", cat.noFilm(), 0);
        C.due("new back", cat.back(), -2);
    }

    private static void writing() {
        CatThatTurns cat = new CatThatTurns();
        for (int n : new int[] {0, -1, 9, Integer.MIN_VALUE, Integer.MAX_VALUE}) {
            C.due("write(" + n + ")", cat.write(n, 0x70), -1);
        }
        C.due("count(1)", cat.count(1), 0);
        // p1,1,1; in three calls; of a number that is longer only the last bytes are written.
        C.due("write(2)", cat.write(2, 0x7a7a7a7a7a007031L), 2);
        C.due("write(4)", cat.write(4, 0xffffffff2c312c31L), 6);
        C.due("fault()", cat.fault(), 0);
        C.due("write(1)", cat.write(1, 0x3b), 7);
        C.due("fault()", cat.fault(), -4);
        C.due("write(8)", cat.write(8, 0x70312c312c313b6aL), 15);
        C.due("fault()", cat.fault(), 14);
        C.due("write(3)", cat.write(3, 0x31303bL), 18);
        C.due("lay()", cat.lay(), 2);
        C.due("count(1)", cat.count(1), 18);
        C.due("write(8, -1)", cat.write(8, -1L), 26);
        C.due("fault()", cat.fault(), 18);
        C.due("wipe()", cat.wipe(), 26);
        C.due("wipe()", cat.wipe(), 0);
        for (int i = 1; i <= 14; i++) {
            C.due("write(8)", cat.write(8, 0), 8 * i);
        }
        C.due("write(7)", cat.write(7, 0), 119);
        C.due("write(2)", cat.write(2, 0), -3);
        C.due("write(9)", cat.write(9, 0), -1);
        C.due("count(1)", cat.count(1), 119);
        C.due("write(1)", cat.write(1, 0), 120);
        C.due("write(1)", cat.write(1, 0), -3);
        C.due("count(1)", cat.count(1), 120);
        C.due("fault()", cat.fault(), 0);
        C.due("wipe()", cat.wipe(), 120);
        StringBuilder full = new StringBuilder();
        for (int i = 0; i < 40; i++) {
            full.append("l1;");
        }
        Checks.put(cat, full.toString());
        C.due("fault() of 120 bytes", cat.fault(), -4);
        Checks.put(cat, full.substring(0, 119));
        C.due("fault() of 119 bytes", cat.fault(), 117);
    }

    private static void fault(String text, int want) {
        CatThatTurns cat = new CatThatTurns();
        Checks.put(cat, text);
        C.due("fault() of " + text, cat.fault(), want);
        C.due("count(1) of " + text, cat.count(1), text.length());
    }

    private static void partsAndFaults() {
        fault("", -4);
        fault("p1,99,50;", -4);
        fault("p0,1,1;", 0);
        fault("p1,0,1;", 0);
        fault("p1,1,0;", 0);
        fault("p100,1,1;", 0);
        fault("p1,100,1;", 0);
        fault("p1,1,100;", 0);
        fault("p1,1,-1;", 0);
        fault("p1,1;", 0);
        fault("p1;", 0);
        fault("p;", 0);
        fault("p", 0);
        fault("p1,1,1,1;", 0);
        fault("p1,1,1,;", 0);
        fault("p1,,1;", 0);
        fault("p,1,1,1;", 0);
        fault("p1,1,1", 0);
        fault("p1,1,1:", 0);
        fault("p1;1;1;", 0);
        fault("p1,1,1;p1,1,1;p1,1,1;", -4);
        fault("p1,1,1;p1,1,1;p1,1,1;p1,1,1;", 21);
        fault("p1,1,1;p1,1,1;p1,1,0;p1,1,1;", 14);
        fault(" p1,1,1;", 0);
        fault("p1,1,1; ", 7);
        fault("p1,1,1;;", 7);
        fault("p1,1,1;\0", 7);
        fault("P1,1,1;", 0);
        fault("p1, 1,1;", 0);
    }

    private static void jointsAndFaults() {
        fault("j1;j90;", -4);
        fault("j0;", 0);
        fault("j91;", 0);
        fault("j-1;", 0);
        fault("j1,1;", 0);
        fault("j10;j10;j10;", 8);
        fault("j10;w30;j10;", 8);
        fault("w30;j10;", -4);
        fault("w30;w36;", 4);
        fault("j10;w30;w30;", 8);
        boolean[] wags = new boolean[400];
        for (int s : new int[] {30, 36, 40, 45, 60, 72, 90, 120}) {
            wags[s] = true;
        }
        for (int s = 0; s < 400; s++) {
            fault("w" + s + ";", wags[s] ? -4 : 0);
        }
        fault("w-30;", 0);
        fault("w30,30;", 0);
        fault("w;", 0);
    }

    private static void numbersAndFaults() {
        fault("l9999;l-9999;l0;", -4);
        fault("l-0;", 0);
        fault("l5;l-00;", 3);
        fault("l-0000;", 0);
        fault("l0000;l-0001;l0012;", -4);
        fault("l00000;", 0);
        fault("l00001;", 0);
        fault("l10000;", 0);
        fault("l-10000;", 0);
        fault("l--1;", 0);
        fault("l+1;", 0);
        fault("l-;", 0);
        fault("l1-;", 0);
        fault("l1,2;", 0);
        fault("l;", 0);
        fault("e0;e90;e010;", -4);
        fault("e91;", 0);
        fault("e-1;", 0);
        fault("e-0;", 0);
        fault("e1,1;", 0);
        fault("1;", 0);
        fault("k1;", 0);
        fault(";", 0);
        fault("p0001,02,003;", -4);
        // Only the first fault is told.
        fault("e1;x;y;", 3);
    }

    private static void laying() {
        CatThatTurns cat = Checks.laid("e0;w40;p5,6,7;l-12;p99,1,50;e7;j90;l345;p2,3,4;");
        int[] loads = {5, 6, 7, 99, 1, 50, 2, 3, 4};
        for (int i = 0; i < 9; i++) {
            C.due("load " + i, cat.load(i / 3, i % 3), loads[i]);
        }
        C.due("load(3, 0)", cat.load(3, 0), -1);
        C.due("load(-1, 0)", cat.load(-1, 0), -1);
        C.due("load(0, 3)", cat.load(0, 3), -1);
        C.due("load(0, -1)", cat.load(0, -1), -1);
        C.due("load(1, -1)", cat.load(1, -1), -1);
        C.due("joint(0, 0)", cat.joint(0, 0), 40);
        C.due("joint(0, 1)", cat.joint(0, 1), 1);
        C.due("joint(1, 0)", cat.joint(1, 0), 90);
        C.due("joint(1, 1)", cat.joint(1, 1), 0);
        C.due("joint(2, 0)", cat.joint(2, 0), -1);
        C.due("joint(-1, 0)", cat.joint(-1, 0), -1);
        C.due("joint(0, 2)", cat.joint(0, 2), -1);
        C.due("joint(0, -1)", cat.joint(0, -1), -1);
        C.due("begun(0)", cat.begun(0), 345);
        C.due("begun(1)", cat.begun(1), 7);
        C.due("begun(2)", cat.begun(2), -10000);
        C.due("begun(-1)", cat.begun(-1), -10000);
        C.due("count(0)", cat.count(0), 3);
        C.due("count(1)", cat.count(1), 47);
        C.due("count(5)", cat.count(5), -1);
        C.due("count(-1)", cat.count(-1), -1);
        cat = Checks.laid("p2,2,2;p3,3,3;w120;");
        C.due("begun(0) without", cat.begun(0), 0);
        C.due("begun(1) without", cat.begun(1), 10);
        C.due("load(2, 0)", cat.load(2, 0), -1);
        C.due("joint(1, 0)", cat.joint(1, 0), -1);
    }

    /** Bodies that differ in one number: all is asked of the one that is laid. */
    private static void layingAlmostTheSame() {
        String[] texts = {"p2,3,4;p5,6,7;p8,9,10;j20;w60;l5;e6;", "p1,3,4;p5,6,7;p8,9,10;j20;w60;l5;e6;",
            "p1,3,4;p5,6,7;p8,9,11;j20;w60;l5;e6;", "p1,3,4;p5,6,7;p8,9,11;j21;w60;l5;e6;",
            "p1,3,4;p5,6,7;p8,9,11;j21;w90;l5;e6;", "p1,3,4;p5,6,7;p8,9,11;j21;j90;l5;e6;",
            "p1,3,4;p5,6,7;p8,9,11;j21;w90;l5;e6;", "p1,3,4;p5,6,7;p8,9,11;w90;j21;l5;e6;",
            "p1,3,4;p5,6,7;p8,9,11;w90;j90;l5;e6;", "p1,3,4;p5,6,7;p8,9,11;j90;w90;l5;e6;",
            "p1,3,4;p5,6,7;p8,9,11;j90;w90;l50;e6;", "p1,3,4;p5,6,7;p8,9,11;j90;w90;l50;e8;",
            "p1,3,4;p5,6,7;w90;l50;e8;", "p1,3,4;p5,6,7;j90;l50;e8;", "p1,3,4;p5,6,7;j90;e8;", "p1,3,4;p5,6,7;j90;",
            "p1,3,4;p5,6,7;p8,9,11;j90;w90;"};
        CatThatTurns cat = new CatThatTurns();
        for (int at = 0; at < texts.length; at++) {
            // No more than 512 calls of one object; what is laid ahead is another body all the same.
            cat = at == 8 ? Checks.laid(texts[7]) : cat;
            String text = texts[at];
            Checks.put(cat, text);
            CatThatTurns fresh = Checks.laid(text);
            C.due("lay() of " + text, cat.lay(), fresh.count(0));
            for (int i = 0; i < 9; i++) {
                C.due("load of " + text, cat.load(i / 3, i % 3), fresh.load(i / 3, i % 3));
            }
            for (int i = 0; i < 4; i++) {
                C.due("joint of " + text, cat.joint(i / 2, i % 2), fresh.joint(i / 2, i % 2));
            }
            C.due("begun(0) of " + text, cat.begun(0), fresh.begun(0));
            C.due("begun(1) of " + text, cat.begun(1), fresh.begun(1));
            for (int turn = 55; turn < 360; turn += 200) {
                for (int i = 1; i >= -1; i--) {
                    C.due("soon of " + text, cat.soon(turn, i), fresh.soon(turn, i));
                }
                C.due("worth of " + text, cat.worth(0, turn), fresh.worth(0, turn));
                C.due("worth of " + text, cat.worth(1, turn), fresh.worth(1, turn));
            }
            C.due("saved of " + text, cat.saved(20), fresh.saved(20));
            C.due("free of " + text, cat.free(1), fresh.free(1));
        }
    }

    private static void layingAnew() {
        CatThatTurns cat = Checks.laid("p2,2,2;p3,3,3;w120;l9;e3;");
        Checks.moves(cat, 0, 1, 1);
        Checks.moves(cat, 3, 10);
        cat.picture(1, 1, 1, 1);
        cat.keep();
        String[] no = {"", "p1,1,1;", "p1,1,1;j1;", "p1,1,1;p1,1,1;", "p1,1,1;p1,1,1;j1;j1;", "p1,1,1;p1,1,1;p1,1,1;j1;",
            "p1,1,1;p1,1,1;p1,1,1;", "j1;", "p1,1,1;p1,1,1;j1;x", "p1,1,1;p1,1,1;p1,1,1;p1,1,1;j1;j1;",
            "p1,1,1;p1,1,1;p1,1,1;j1;j1;j1;"};
        for (String text : no) {
            Checks.put(cat, text);
            C.due("lay() of " + text, cat.lay(), -2);
            cat.fault();
        }
        int[] as = {2, no[10].length(), 3, 1, 1};
        for (int i = 0; i < 5; i++) {
            C.due("count after NO", cat.count(i), as[i]);
        }
        C.due("load after NO", cat.load(1, 1), 3);
        C.due("joint after NO", cat.joint(0, 0), 120);
        C.due("begun after NO", cat.begun(0), 9);
        C.due("begun after NO", cat.begun(1), 3);
        C.due("run after NO", cat.run(0, 0), 2);
        // The same body again: the ways, pictures and what is kept go all the same.
        Checks.put(cat, "p2,2,2;p3,3,3;w120;l9;e3;");
        C.due("lay()", cat.lay(), 2);
        int[] then = {2, 25, 0, 0, 0};
        for (int i = 0; i < 5; i++) {
            C.due("count after lay", cat.count(i), then[i]);
        }
        C.due("back()", cat.back(), -2);
        C.due("wipe()", cat.wipe(), 25);
        C.due("load()", cat.load(1, 1), 3);
        // Another body: what was searched of the one ahead is not told of it.
        C.due("soon", cat.soon(180, -1) >= 0 ? 1 : 0, 1);
        Checks.put(cat, "p2,2,2;p3,3,3;w120;e3;");
        C.due("lay()", cat.lay(), 2);
        C.due("soon(180)", cat.soon(180, -1), -4);
        Checks.put(cat, "p2,2,2;p3,3,3;w120;e90;");
        C.due("lay()", cat.lay(), 2);
        C.due("soon(90)", cat.soon(90, -1), 0);
        Checks.put(cat, "p2,2,2;p3,3,3;p1,1,1;w120;j1;e0;");
        C.due("lay()", cat.lay(), 3);
        C.due("soon(90)", cat.soon(90, -1), -4);
        Checks.put(cat, "p1,1,3;p1,1,3;j40;e20;");
        C.due("lay()", cat.lay(), 2);
        C.due("soon(21)", cat.soon(21, -1), 3);
    }
}
