import java.util.ArrayList;
import java.util.List;

/**
 * "BAD: a number is none that is told .. NO: not as things stand. NONE: there is none. FULL. Of
 * several the first; nothing changes then." All calls with numbers just within and just beyond
 * what is told, on objects that are new, in use, full; all that can be asked of an object stands
 * as ahead behind a call that was refused. And 512 calls of one object.
 */
public final class RefusedTest {
    private static final int BAD = -1, NO = -2, FULL = -3, NONE = -4;
    private static final int LEAST = Integer.MIN_VALUE, MOST = Integer.MAX_VALUE;
    private static final String THREE = "p2,3,4;p5,6,7;p8,9,10;w30;j20;l11;e12;";
    private static final int NEW = 0, IN_USE = 1, FULL_UP = 2, NOTHING_GOES = 3;
    private static final Checks C = new Checks();

    /** A call by its numbers. */
    private interface Asks {
        int ask(CatThatTurns cat, int... numbers);
    }

    /** A call: what it answers to numbers that are none, the least and most of each number. */
    private record Call(String name, int bad, int[][] told, Asks how) {
        String with(int... numbers) {
            return name + java.util.Arrays.toString(numbers);
        }
    }

    public static void main(String[] args) {
        for (int stand = NEW; stand <= NOTHING_GOES; stand++) {
            List<Integer> ahead = all(object(stand));
            C.due("the same calls, the same answers", ahead.equals(all(object(stand))) ? 1 : 0, 1);
            for (Call call : calls(object(stand).count(0))) {
                numbersThatAreTold(stand, call);
                numbersThatAreNone(stand, call, ahead);
            }
        }
        fullThings(all(object(FULL_UP)));
        thingsThatDoNotStand(all(object(NOTHING_GOES)));
        thingsThatAreNot(all(object(NOTHING_GOES)));
        badAheadOfAll(all(object(FULL_UP)), all(object(NOTHING_GOES)));
        askingChangesNothing();
        fiveHundredAndTwelveCalls();
        C.end();
    }

    private static List<Call> calls(int parts) {
        int[] way = {0, 3};
        int[] turn = {0, 359};
        int[] part = {0, parts - 1};
        int[] joint = {0, parts - 2};
        int[] what = {0, 1};
        List<Call> calls = new ArrayList<>();
        calls.add(new Call("write", BAD, new int[][] {{1, 8}}, (c, n) -> c.write(n[0], 0x7a7a7a7a7a7a7a7aL)));
        calls.add(new Call("load", BAD, new int[][] {part, {0, 2}}, (c, n) -> c.load(n[0], n[1])));
        calls.add(new Call("joint", BAD, new int[][] {joint, what}, (c, n) -> c.joint(n[0], n[1])));
        calls.add(new Call("begun", -10000, new int[][] {what}, (c, n) -> c.begun(n[0])));
        calls.add(new Call("move", BAD, new int[][] {way, {0, 18}}, (c, n) -> c.move(n[0], n[1])));
        calls.add(new Call("noWay", BAD, new int[][] {way}, (c, n) -> c.noWay(n[0])));
        calls.add(new Call("turn", BAD, new int[][] {way, turn, {0, 60}, part}, (c, n) -> c.turn(n[0], n[1], n[2], n[3])));
        calls.add(new Call("run", BAD, new int[][] {way, {0, 3}}, (c, n) -> c.run(n[0], n[1])));
        calls.add(new Call("spun", BAD, new int[][] {way}, (c, n) -> c.spun(n[0])));
        calls.add(new Call("times", BAD, new int[][] {way, {1, 1000}}, (c, n) -> c.times(n[0], n[1])));
        calls.add(new Call("soon", BAD, new int[][] {turn, {-1, MOST}}, (c, n) -> c.soon(n[0], n[1])));
        calls.add(new Call("fall", BAD, new int[][] {{0, 100000}}, (c, n) -> c.fall(n[0])));
        calls.add(new Call("saved", BAD, new int[][] {{0, 100000}}, (c, n) -> c.saved(n[0])));
        calls.add(new Call("free", BAD, new int[][] {{0, parts == 2 ? 1 : 3}}, (c, n) -> c.free(n[0])));
        calls.add(new Call("worth", BAD, new int[][] {joint, turn}, (c, n) -> c.worth(n[0], n[1])));
        calls.add(new Call("picture", BAD, new int[][] {{0, 60}, part, turn, {0, 90}},
                (c, n) -> c.picture(n[0], n[1], n[2], n[3])));
        calls.add(new Call("may", BAD, new int[][] {way, turn}, (c, n) -> c.may(n[0], n[1])));
        calls.add(new Call("looked", BAD, new int[][] {way, what}, (c, n) -> c.looked(n[0], n[1])));
        calls.add(new Call("pushed", -10001, new int[][] {way, turn, {0, 200}, what},
                (c, n) -> c.pushed(n[0], n[1], n[2], n[3])));
        calls.add(new Call("head", BAD, new int[][] {turn, {0, 60}}, (c, n) -> c.head(n[0], n[1])));
        calls.add(new Call("down", BAD, new int[][] {{0, 60}}, (c, n) -> c.down(n[0])));
        calls.add(new Call("count", BAD, new int[][] {{0, 4}}, (c, n) -> c.count(n[0])));
        return calls;
    }

    /** An object that is new, in use, full, or such that a text, its ways and its film are all amiss. */
    private static CatThatTurns object(int stand) {
        if (stand == NEW) {
            return new CatThatTurns();
        }
        CatThatTurns cat = Checks.laid(stand == NOTHING_GOES ? "p1,1,1;p1,1,1;j10;e0;" : THREE);
        if (stand == IN_USE) {
            Checks.moves(cat, 0, 1, 10, 3, 2, 11, 4);
            Checks.moves(cat, 1, 3, 3, 3, 3);
            Checks.moves(cat, 3, 0, 16);
            cat.picture(1, 1, 100, 50);
            cat.keep();
            cat.move(2, 15);
            cat.picture(2, 2, 150, 90);
            return cat;
        }
        for (int i = 0; i < 60; i++) {
            cat.move(0, stand == FULL_UP ? 1 + i / 3 % 2 : 1);
            if (stand == FULL_UP) {
                cat.move(1, 3 + i % 2);
                cat.move(2, i == 50 ? 17 : 0);
                cat.move(3, i % 2 == 0 ? 18 : 17);
            }
        }
        for (int i = 0; i < 30 && stand == FULL_UP; i++) {
            cat.picture(i, i % 3, 180, 61 + i);
        }
        if (stand == FULL_UP) {
            cat.keep();
            cat.keep();
            fill(cat);
        } else {
            Checks.moves(cat, 1, 5);
            Checks.moves(cat, 2, 12);
            Checks.moves(cat, 3, 1);
            cat.picture(60, 0, 0, 90);
            Checks.put(cat, "p1,1,1;j1;p1,1,1;j");
        }
        return cat;
    }

    /** Behind a text of 38 bytes. */
    private static void fill(CatThatTurns cat) {
        for (int i = 0; i < 13; i++) {
            cat.write(6, 0x6c313b6c313bL);
        }
        cat.write(3, 0x6c313b);
        cat.write(1, 0x7a);
    }

    /** What an object answers to all that can be asked, by less than 200 calls; it is spoilt then. */
    private static List<Integer> all(CatThatTurns cat) {
        List<Integer> told = new ArrayList<>();
        for (int i = 0; i <= 4; i++) {
            told.add(cat.count(i));
        }
        told.add(cat.fault());
        for (int i = 0; i < 9; i++) {
            told.add(cat.load(i / 3, i % 3));
        }
        for (int i = 0; i < 4; i++) {
            told.add(cat.joint(i / 2, i % 2));
        }
        told.add(cat.begun(0));
        told.add(cat.begun(1));
        tellWaysAndFilm(cat, told);
        while (cat.count(4) > 0) {
            told.add(cat.back());
            tellWaysAndFilm(cat, told);
        }
        told.add(cat.noFilm());
        for (int way = 0; way < 4; way++) {
            told.add(cat.noWay(way));
        }
        told.add(cat.wipe());
        return told;
    }

    private static void tellWaysAndFilm(CatThatTurns cat, List<Integer> told) {
        for (int way = 0; way < 4; way++) {
            told.add(cat.run(way, 0));
            told.add(cat.run(way, 2));
            told.add(cat.run(way, 3));
            told.add(cat.spun(way));
            for (int t : new int[] {1, 3, 5, 20, 60}) {
                told.add(cat.turn(way, 0, t, 1));
            }
            told.add(cat.looked(way, 0));
            told.add(cat.looked(way, 1));
            told.add(cat.pushed(way, 17, 200, 0));
        }
        told.add(cat.count(2));
        told.add(cat.count(3));
        told.add(cat.down(7));
    }

    /** The least and the most that are told are not BAD. */
    private static void numbersThatAreTold(int stand, Call call) {
        int many = call.told.length;
        CatThatTurns cat = object(stand);
        for (int ends = 0; ends < 1 << many; ends++) {
            int[] numbers = new int[many];
            for (int i = 0; i < many; i++) {
                numbers[i] = call.told[i][ends >> i & 1];
            }
            C.due(call.with(numbers) + " is BAD, object " + stand, call.how.ask(cat, numbers) == call.bad ? 1 : 0, 0);
        }
    }

    /** One number beyond what is told, or all: BAD, and all stands as ahead. */
    private static void numbersThatAreNone(int stand, Call call, List<Integer> ahead) {
        int many = call.told.length;
        for (int at = 0; at <= many; at++) {
            CatThatTurns cat = object(stand);
            for (int beyond = 0; beyond < 4; beyond++) {
                for (int end = 0; end <= 1; end++) {
                    int[] numbers = new int[many];
                    for (int i = 0; i < many; i++) {
                        numbers[i] = i == at || at == many ? none(call.told[i], beyond) : call.told[i][end];
                    }
                    C.due(call.with(numbers) + ", object " + stand, call.how.ask(cat, numbers), call.bad);
                }
            }
            C.due("all stands behind BAD of " + call.name, all(cat).equals(ahead) ? 1 : 0, 1);
        }
    }

    private static int none(int[] told, int beyond) {
        int more = told[1] < MOST ? told[1] + 1 : LEAST;
        int[] numbers = {told[0] - 1, more, LEAST, told[1] < MOST ? MOST : LEAST};
        return numbers[beyond];
    }

    private static void fullThings(List<Integer> ahead) {
        for (int way = 0; way < 4; way++) {
            CatThatTurns cat = object(FULL_UP);
            for (int move = 0; move <= 18; move++) {
                C.due("move where it is full", cat.move(way, move), FULL);
            }
            C.due("all stands behind FULL", all(cat).equals(ahead) ? 1 : 0, 1);
        }
        CatThatTurns cat = object(FULL_UP);
        for (int n = 1; n <= 8; n++) {
            C.due("write(" + n + ") where it is full", cat.write(n, 0x6c313b), FULL);
        }
        C.due("picture where it is full", cat.picture(0, 0, 0, 0), FULL);
        C.due("picture where it is full", cat.picture(60, 2, 359, 90), FULL);
        C.due("keep where it is full", cat.keep(), FULL);
        C.due("all stands behind FULL", all(cat).equals(ahead) ? 1 : 0, 1);
    }

    private static void thingsThatDoNotStand(List<Integer> ahead) {
        CatThatTurns cat = object(NOTHING_GOES);
        C.due("lay of a fault", cat.lay(), NO);
        C.due("back to nothing", cat.back(), NO);
        for (int way = 0; way < 4; way++) {
            C.due("times of what does not close", cat.times(way, 1), NO);
            C.due("times of what does not close", cat.times(way, 1000), NO);
        }
        C.due("all stands behind NO", all(cat).equals(ahead) ? 1 : 0, 1);
    }

    private static void thingsThatAreNot(List<Integer> ahead) {
        CatThatTurns cat = object(NOTHING_GOES);
        C.due("soon that is never", cat.soon(1, -1), NONE);
        C.due("soon that is never", cat.soon(1, 0), NONE);
        C.due("soon's move beyond", cat.soon(0, 0), NONE);
        C.due("fewest of a body that can't", cat.fewest(), NONE);
        C.due("worth where it is never soon", cat.worth(0, 1), NONE);
        C.due("turn behind more than is done", cat.turn(0, 0, 3, 0), NONE);
        C.due("looked for what was not", cat.looked(0, 1), NONE);
        C.due("pushed by what was not", cat.pushed(0, 0, 200, 1), -10004);
        C.due("head of none", cat.head(180, 0), NONE);
        cat.wipe();
        C.due("fault of none", cat.fault(), NONE);
        Checks.put(cat, "p1,1,1;j1;p1,1,1;j");
        C.due("all stands behind NONE", all(cat).equals(ahead) ? 1 : 0, 1);
    }

    /** "Of several the first": BAD ahead of NO, of NONE, of FULL. */
    private static void badAheadOfAll(List<Integer> full, List<Integer> nothing) {
        CatThatTurns cat = object(FULL_UP);
        C.due("write(0) where it is full", cat.write(0, 0), BAD);
        C.due("write(9) where it is full", cat.write(9, 0), BAD);
        C.due("move(4, 0) where all are full", cat.move(4, 0), BAD);
        C.due("move(0, 19) where it is full", cat.move(0, 19), BAD);
        C.due("picture(0, 3, 0, 0) where it is full", cat.picture(0, 3, 0, 0), BAD);
        C.due("all stands", all(cat).equals(full) ? 1 : 0, 1);
        cat = object(NOTHING_GOES);
        C.due("times(0, 0) where it does not close", cat.times(0, 0), BAD);
        C.due("times(0, 1001) where it does not close", cat.times(0, 1001), BAD);
        C.due("turn(0, 0, 3, 2) where no such move is done", cat.turn(0, 0, 3, 2), BAD);
        C.due("turn(0, 360, 3, 0) where no such move is done", cat.turn(0, 360, 3, 0), BAD);
        C.due("turn(0, 0, 61, 0)", cat.turn(0, 0, 61, 0), BAD);
        C.due("soon(360, 0), never soon", cat.soon(360, 0), BAD);
        C.due("soon(1, -2), never soon", cat.soon(1, -2), BAD);
        C.due("worth(1, 1), never soon", cat.worth(1, 1), BAD);
        C.due("worth(0, 360), never soon", cat.worth(0, 360), BAD);
        C.due("looked(4, 1)", cat.looked(4, 1), BAD);
        C.due("pushed(0, 0, 201, 1)", cat.pushed(0, 0, 201, 1), -10001);
        C.due("head(180, 61)", cat.head(180, 61), BAD);
        C.due("all stands", all(cat).equals(nothing) ? 1 : 0, 1);
    }

    /** Calls that only ask: behind all of them an object is as one that was not asked. */
    private static void askingChangesNothing() {
        for (int stand = NEW; stand <= NOTHING_GOES; stand++) {
            CatThatTurns cat = object(stand);
            for (int way = 0; way < 4; way++) {
                cat.may(way, 100);
                cat.times(way, 3);
            }
            cat.fault();
            cat.soon(100, -1);
            cat.soon(100, 0);
            cat.saved(30);
            cat.fewest();
            cat.free(1);
            cat.worth(0, 100);
            cat.worth(1, 200);
            cat.head(100, 60);
            cat.down(60);
            C.due("all stands behind asking", all(cat).equals(all(object(stand))) ? 1 : 0, 1);
        }
    }

    /** "at most 512 calls": the last ones answer as the first do, the dearest among them. */
    private static void fiveHundredAndTwelveCalls() {
        String[] texts = {"p9,20,31;p7,15,40;p3,16,29;j30;w30;l7;e3;", "p9,20,31;p7,15,40;w30;l7;e3;",
            "p9,20,31;p7,15,40;p3,16,29;j30;j31;l7;e3;"};
        int[] saved = new int[texts.length];
        int[] worth = new int[texts.length];
        int[] moves = new int[texts.length];
        for (int i = 0; i < texts.length; i++) {
            CatThatTurns fresh = Checks.laid(texts[i]);
            saved[i] = fresh.saved(100000);
            worth[i] = fresh.worth(0, 170);
            moves[i] = fresh.soon(170, 1);
        }
        CatThatTurns cat = new CatThatTurns();
        int calls = 0;
        for (int round = 0; calls + 12 <= 512; round++) {
            int i = round % texts.length;
            Checks.put(cat, texts[i]);
            C.due("lay() behind " + calls, cat.lay(), i == 1 ? 2 : 3);
            C.due("worth behind " + calls, cat.worth(0, 170), worth[i]);
            C.due("saved behind " + calls, cat.saved(100000), saved[i]);
            C.due("soon behind " + calls, cat.soon(170, 1), moves[i]);
            calls += 5 + (texts[i].length() + 7) / 8;
        }
        for (; calls < 511; calls++) {
            C.due("spun behind " + calls, cat.spun(0), 0);
        }
        C.due("the last call", cat.count(4), 0);
    }
}
