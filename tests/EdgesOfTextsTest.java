/** Terms 1 and promises 1 to 8: each sentence that names an edge, by itself. */
public final class EdgesOfTextsTest {
    private static final int BAD = -1, NO = -2, FULL = -3, NONE = -4;
    private static final Checks C = new Checks();

    public static void main(String[] args) {
        atFirst();
        bytesAtMost();
        oneToEightBytes();
        theHighestFirst();
        bytesBehindTheText();
        wipedAndWrittenAgain();
        emptyText();
        oneToFourFigures();
        lessAheadNotOfZero();
        partedAndBehindTheLast();
        lettersThatAreItems();
        loadsOneTo99();
        threePartsAtMost();
        jointsThatBend();
        jointsThatWag();
        oneWagAtMost();
        aThirdJoint();
        begunWith();
        rightWithin();
        placeOfTheFirstFault();
        twoPartsAndOneJointLess();
        whatIsLaidAnew();
        whatIsNotLaid();
        askedOfPartsThatThereAre();
        C.end();
    }

    /** A text without fault of so many bytes, three at least. */
    private static String faultless(int bytes) {
        StringBuilder text = new StringBuilder();
        while (text.length() + 6 <= bytes) {
            text.append("l1;");
        }
        int rest = bytes - text.length();
        return text.append('l').append("0001;".substring(6 - rest)).toString();
    }

    private static CatThatTurns written(String text) {
        CatThatTurns cat = new CatThatTurns();
        Checks.put(cat, text);
        return cat;
    }

    private static void fault(String text, int want) {
        C.due("fault() of " + text, written(text).fault(), want);
    }

    /** Promise 1; "at first p1,1,1;p1,1,1;j10;": laid, but not written in THE TEXT. */
    private static void atFirst() {
        CatThatTurns cat = new CatThatTurns();
        CatThatTurns same = Checks.laid("p1,1,1;p1,1,1;j10;");
        C.due("the text at first", cat.count(1), 0);
        for (int part = -1; part <= 3; part++) {
            for (int pose = -1; pose <= 3; pose++) {
                C.due("load at first", cat.load(part, pose), same.load(part, pose));
            }
        }
        for (int joint = -1; joint <= 2; joint++) {
            C.due("joint(, 0) at first", cat.joint(joint, 0), same.joint(joint, 0));
            C.due("joint(, 1) at first", cat.joint(joint, 1), same.joint(joint, 1));
        }
        C.due("begun(0) at first", cat.begun(0), same.begun(0));
        C.due("begun(1) at first", cat.begun(1), same.begun(1));
    }

    /** "bytes (120 at most)", FULL: what does not fit leaves not one byte behind. */
    private static void bytesAtMost() {
        for (int n = 1; n <= 8; n++) {
            CatThatTurns cat = written(faultless(120 - n));
            C.due("write(" + n + ") to 120", cat.write(n, 0), 120);
            for (int k = 1; k <= 8; k++) {
                C.due("write(" + k + ") behind 120", cat.write(k, 0), FULL);
            }
            C.due("count(1)", cat.count(1), 120);
            cat = written(faultless(121 - n));
            C.due("write(" + n + ") to 121", cat.write(n, 0x7a7a7a7a7a7a7a7aL), FULL);
            C.due("count(1)", cat.count(1), 121 - n);
            C.due("fault()", cat.fault(), NONE);
            if (n > 1) {
                C.due("write(" + (n - 1) + ") to 120", cat.write(n - 1, 0x7a7a7a7a7a7a7a7aL), 120);
                C.due("fault()", cat.fault(), 121 - n);
            }
        }
        C.due("120 bytes without fault", written(faultless(120)).fault(), NONE);
    }

    /** "n bytes (1 to 8)": BAD, also where there is no room. */
    private static void oneToEightBytes() {
        for (int n = 1; n <= 8; n++) {
            C.due("write(" + n + ")", new CatThatTurns().write(n, 0), n);
        }
        for (String text : new String[] {"", faultless(120)}) {
            CatThatTurns cat = written(text);
            for (int n : new int[] {0, 9, -1, -8, 120, Integer.MAX_VALUE, Integer.MIN_VALUE}) {
                C.due("write(" + n + ")", cat.write(n, 0), BAD);
            }
            C.due("count(1)", cat.count(1), text.length());
        }
    }

    /** "n bytes of v, the highest first": in rows of n, and bytes from 128 to 255 are bytes, too. */
    private static void theHighestFirst() {
        String text = "p1,2,3;p40,50,60;w72;l-80;e9;";
        for (int n = 1; n <= 8; n++) {
            CatThatTurns cat = new CatThatTurns();
            for (int at = 0; at < text.length(); at += n) {
                long v = 0;
                int many = Math.min(n, text.length() - at);
                for (int i = 0; i < many; i++) {
                    v = v << 8 | text.charAt(at + i);
                }
                C.due("write by " + n, cat.write(many, v), at + many);
            }
            C.due("lay()", cat.lay(), 2);
            C.due("load(0, 0)", cat.load(0, 0), 1);
            C.due("load(1, 2)", cat.load(1, 2), 60);
            C.due("joint(0, 0)", cat.joint(0, 0), 72);
            C.due("begun(0)", cat.begun(0), -80);
        }
        for (int sign = 128; sign <= 255; sign++) {
            fault("l1;" + (char) sign, 3);
            fault("l1" + (char) sign + ";", 0);
        }
        CatThatTurns cat = new CatThatTurns();
        // All eight, the highest a byte from 128: no number that is less than 0.
        C.due("write(8, ff6c313b..)", cat.write(8, 0xff6c313b6c313b6cL), 8);
        C.due("fault()", cat.fault(), 0);
        C.due("write(8, least)", cat.write(8, Long.MIN_VALUE), 16);
    }

    /** "come behind THE TEXT: how long it is": also behind a fault, and behind what is laid. */
    private static void bytesBehindTheText() {
        CatThatTurns cat = written("x");
        C.due("write behind a fault", cat.write(3, 0x6c313b), 4);
        C.due("fault()", cat.fault(), 0);
        cat = Checks.laid("p1,1,1;p1,1,1;j10;");
        C.due("write behind what is laid", cat.write(3, 0x6c323b), 21);
        C.due("begun(0), not laid yet", cat.begun(0), 0);
        C.due("lay()", cat.lay(), 2);
        C.due("begun(0)", cat.begun(0), 2);
    }

    /** Promise 3: empty, one byte, full; there is room again. */
    private static void wipedAndWrittenAgain() {
        for (int bytes : new int[] {0, 3, 4, 119, 120}) {
            CatThatTurns cat = written(bytes == 0 ? "" : faultless(bytes));
            C.due("wipe()", cat.wipe(), bytes);
            C.due("wipe() again", cat.wipe(), 0);
            C.due("count(1)", cat.count(1), 0);
            C.due("fault()", cat.fault(), NONE);
            C.due("lay()", cat.lay(), NO);
            for (int i = 1; i <= 15; i++) {
                C.due("write again", cat.write(8, 0), 8 * i);
            }
            C.due("write again", cat.write(1, 0), FULL);
        }
        CatThatTurns cat = Checks.laid("p1,2,3;p1,1,1;j10;");
        cat.wipe();
        C.due("what is laid stays", cat.load(0, 2), 3);
        // Bytes of the text that was are not read behind a shorter one.
        Checks.put(cat, "p1,2,");
        C.due("fault()", cat.fault(), 0);
    }

    /** A text without items has no fault, but is nothing to lay. */
    private static void emptyText() {
        CatThatTurns cat = new CatThatTurns();
        C.due("fault()", cat.fault(), NONE);
        C.due("lay()", cat.lay(), NO);
        C.due("count(0)", cat.count(0), 2);
    }

    /** "numbers (one to four figures)": none, one, four, five. */
    private static void oneToFourFigures() {
        String[] letters = {"j", "w", "l", "e"};
        String[] numbers = {"5", "30", "7", "9"};
        for (int i = 0; i < letters.length; i++) {
            String number = "00000".substring(numbers[i].length()) + numbers[i];
            fault(letters[i] + ";", 0);
            fault(letters[i] + numbers[i] + ";", NONE);
            fault(letters[i] + number.substring(1) + ";", NONE);
            fault(letters[i] + number + ";", 0);
        }
        fault("p1,0001,1;", NONE);
        fault("p0001,0099,0001;", NONE);
        fault("p00001,1,1;", 0);
        fault("p1,00001,1;", 0);
        fault("p1,1,00001;", 0);
        fault("p,1,1;", 0);
        fault("p1,,1;", 0);
        fault("p1,1,;", 0);
        fault("l-0001;", NONE);
        fault("l-00001;", 0);
        fault("l-;", 0);
    }

    /** "perhaps with - ahead, not of 0". */
    private static void lessAheadNotOfZero() {
        String[] none = {"l-0;", "l-00;", "l-000;", "l-0000;", "e-0;", "e-0000;", "l--1;", "l1-;", "l-1-;", "l+1;", "l- 1;"};
        for (String text : none) {
            fault(text, 0);
        }
        String[] some = {"l0;", "l00;", "l0000;", "l-1;", "l-01;", "l-10;", "l-9;", "l-1000;", "e0;"};
        for (String text : some) {
            fault(text, NONE);
        }
        C.due("l-0012", Checks.laid("p1,1,1;p1,1,1;j1;l-0012;").begun(0), -12);
        C.due("l0000", Checks.laid("p1,1,1;p1,1,1;j1;l5;l0000;").begun(0), 0);
    }

    /** "parted by , and ; (behind the last one, too)". */
    private static void partedAndBehindTheLast() {
        String[] items = {"p1,1,1", "j1", "w30", "l1", "e1", "l-1"};
        for (String item : items) {
            fault(item + ";", NONE);
            fault(item, 0);
            fault(item + ",", 0);
            fault(item + ",;", 0);
            fault(item + ";;", item.length() + 1);
            fault("l1;" + item, 3);
            fault(item + ":", 0);
            fault(item + " ;", 0);
            fault(item + "; ", item.length() + 1);
            fault(";" + item + ";", 0);
            String ahead = faultless(120 - item.length());
            fault(ahead + item, ahead.length());
            ahead = faultless(119 - item.length());
            fault(ahead + item + ";", NONE);
        }
        fault("p1;1;1;", 0);
        fault("p1,1;1;", 0);
        fault("j1;1;", 3);
    }

    /** "a letter": these five, no others, none at all. */
    private static void lettersThatAreItems() {
        for (int sign = 0; sign <= 255; sign++) {
            String item = sign == 'p' ? "p1,1,1;" : (char) sign + "30;";
            boolean told = "pjwle".indexOf(sign) >= 0;
            fault(item, told ? NONE : 0);
            fault("l1;" + item, told ? NONE : 3);
            if (!told) {
                fault((char) sign + "1,1,1;", 0);
            }
        }
        fault("30;", 0);
        fault("1,1,1;", 0);
        fault("jj1;", 0);
        fault("p", 0);
        fault("-", 0);
    }

    /** "its LOAD (1 to 99 each)": three of them, not two, not four. */
    private static void loadsOneTo99() {
        for (int load : new int[] {0, 1, 2, 98, 99, 100, 999, 9999, -1, -99}) {
            int want = load >= 1 && load <= 99 ? NONE : 0;
            fault("p" + load + ",5,5;", want);
            fault("p5," + load + ",5;", want);
            fault("p5,5," + load + ";", want);
        }
        fault("p1;", 0);
        fault("p1,1;", 0);
        fault("p1,1,1;", NONE);
        fault("p1,1,1,1;", 0);
        CatThatTurns cat = Checks.laid("p1,99,1;p99,1,99;j1;");
        int[] loads = {1, 99, 1, 99, 1, 99};
        for (int i = 0; i < loads.length; i++) {
            C.due("load", cat.load(i / 3, i % 3), loads[i]);
        }
    }

    /** "3 at most". */
    private static void threePartsAtMost() {
        fault("p1,1,1;p2,2,2;p3,3,3;", NONE);
        fault("p1,1,1;p2,2,2;p3,3,3;p4,4,4;", 21);
        fault("p1,1,1;p2,2,2;l1;p3,3,3;e1;p4,4,4;j1;", 27);
        CatThatTurns cat = Checks.laid("j2;p1,1,1;l1;p2,2,2;e1;j1;p3,3,3;");
        C.due("load(0, 0), as they come", cat.load(0, 0), 1);
        C.due("load(1, 0), as they come", cat.load(1, 0), 2);
        C.due("load(2, 0), as they come", cat.load(2, 0), 3);
        C.due("joint(0, 0), as they come", cat.joint(0, 0), 2);
        C.due("joint(1, 0), as they come", cat.joint(1, 0), 1);
    }

    /** "STEPS of S degrees (1 to 90)". */
    private static void jointsThatBend() {
        for (int s = -91; s <= 1000; s++) {
            fault("j" + s + ";", s >= 1 && s <= 90 ? NONE : 0);
        }
        fault("j1,1;", 0);
        for (int s : new int[] {1, 90}) {
            CatThatTurns cat = Checks.laid("p1,1,1;p1,1,1;j" + s + ";");
            C.due("joint(0, 0)", cat.joint(0, 0), s);
            C.due("joint(0, 1)", cat.joint(0, 1), 0);
        }
    }

    /** "(30, 36, 40, 45, 60, 72, 90, 120)". */
    private static void jointsThatWag() {
        String told = ",30,36,40,45,60,72,90,120,";
        for (int s = -121; s <= 1000; s++) {
            boolean is = told.contains("," + s + ",");
            fault("w" + s + ";", is ? NONE : 0);
            if (is) {
                CatThatTurns cat = Checks.laid("p1,1,1;p1,1,1;w" + s + ";");
                C.due("joint(0, 0)", cat.joint(0, 0), s);
                C.due("joint(0, 1)", cat.joint(0, 1), 1);
            }
        }
        fault("w30,36;", 0);
    }

    /** "one at most", of any steps, next to each other or not. */
    private static void oneWagAtMost() {
        fault("w30;w30;", 4);
        fault("w120;l1;w30;", 8);
        fault("w30;j1;", NONE);
        fault("j1;w30;", NONE);
        fault("w30;w31;", 4);
    }

    /** "FAULT: .. (a third JOINT, too)", of whatever kinds. */
    private static void aThirdJoint() {
        fault("j1;j2;", NONE);
        fault("j1;j2;j3;", 6);
        fault("j1;j2;w30;", 6);
        fault("j1;w30;j3;", 7);
        fault("w30;j2;l1;j3;", 10);
    }

    /** "L (-9999 to 9999; 0 without; the last one)". */
    private static void begunWith() {
        String body = "p1,1,1;p1,1,1;j1;";
        for (int l : new int[] {-9999, -1000, -1, 0, 1, 1000, 9999}) {
            C.due("l" + l, Checks.laid(body + "l" + l + ";").begun(0), l);
            C.due("l" + l + ", the last one", Checks.laid("l77;" + body + "l-9999;l" + l + ";").begun(0), l);
        }
        C.due("l, without", Checks.laid(body).begun(0), 0);
        C.due("l, one ahead of all", Checks.laid("l3;" + body).begun(0), 3);
        fault("l10000;", 0);
        fault("l-10000;", 0);
        // Without, again: the one of the text that was laid ahead does not stay.
        CatThatTurns cat = Checks.laid(body + "l5;e5;");
        Checks.put(cat, body);
        C.due("lay()", cat.lay(), 2);
        C.due("begun(0)", cat.begun(0), 0);
        C.due("begun(1)", cat.begun(1), 10);
    }

    /** "E degrees at most (0 to 90; 10 without; the last one)". */
    private static void rightWithin() {
        String body = "p1,1,1;p1,1,1;j1;";
        for (int e = -91; e <= 1000; e++) {
            fault("e" + e + ";", e >= 0 && e <= 90 ? NONE : 0);
        }
        C.due("e0", Checks.laid(body + "e0;").begun(1), 0);
        C.due("e90", Checks.laid(body + "e90;").begun(1), 90);
        C.due("e, without", Checks.laid(body).begun(1), 10);
        C.due("e, the last one", Checks.laid("e90;" + body + "e3;e0;").begun(1), 0);
        fault("e90;e91;", 4);
    }

    /** "the place of the first byte of the first ITEM that is not so": 0 to 119. */
    private static void placeOfTheFirstFault() {
        for (int bytes = 3; bytes <= 119; bytes++) {
            fault(faultless(bytes) + "z", bytes);
        }
        fault("z", 0);
        fault("l1;j0;j91;z;", 3);
        fault("p1,1,100;z", 0);
        // The item's first byte, not the byte that is amiss.
        fault("e1;p10,20,3x;", 3);
        CatThatTurns cat = written("e1;x");
        C.due("fault()", cat.fault(), 3);
        C.due("fault() again", cat.fault(), 3);
    }

    /** "two PARTS at least and one JOINT less than PARTS". */
    private static void twoPartsAndOneJointLess() {
        String[] some = {"", "p1,1,1;", "p1,1,1;p1,1,1;", "p1,1,1;p1,1,1;p1,1,1;"};
        String[] joints = {"", "j1;", "j1;w30;"};
        for (int parts = 0; parts <= 3; parts++) {
            for (int many = 0; many <= 2; many++) {
                int want = parts >= 2 && many == parts - 1 ? parts : NO;
                C.due("lay() of " + some[parts] + joints[many], written(some[parts] + joints[many]).lay(), want);
                C.due("lay() of " + joints[many] + some[parts], written(joints[many] + some[parts]).lay(), want);
                C.due("lay() with l, e", written(joints[many] + "l1;e1;" + some[parts]).lay(), want);
                C.due("lay() with a fault", written(joints[many] + some[parts] + "z").lay(), NO);
            }
        }
    }

    private static CatThatTurns inUse() {
        CatThatTurns cat = Checks.laid("p2,3,4;p5,6,7;p8,9,10;w30;j20;l11;e12;");
        Checks.moves(cat, 0, 1, 2);
        Checks.moves(cat, 1, 3);
        Checks.moves(cat, 2, 10, 11);
        Checks.moves(cat, 3, 0);
        cat.picture(1, 2, 3, 4);
        cat.keep();
        cat.keep();
        return cat;
    }

    /** "no PICTURES, nothing KEPT"; WAYS "empty at first, and when a TEXT is LAID". THE TEXT stays. */
    private static void whatIsLaidAnew() {
        for (String text : new String[] {"p2,3,4;p5,6,7;p8,9,10;w30;j20;l11;e12;", "p1,1,1;p1,1,1;j1;"}) {
            CatThatTurns cat = inUse();
            Checks.put(cat, text);
            int parts = cat.lay();
            C.due("lay()", parts, text.length() > 30 ? 3 : 2);
            int[] counts = {parts, text.length(), 0, 0, 0};
            for (int i = 0; i < counts.length; i++) {
                C.due("count(" + i + ")", cat.count(i), counts[i]);
            }
            for (int way = 0; way < 4; way++) {
                C.due("run(" + way + ", 0)", cat.run(way, 0), 0);
                C.due("noWay(" + way + ")", cat.noWay(way), 0);
            }
            C.due("noFilm()", cat.noFilm(), 0);
            C.due("back()", cat.back(), NO);
            C.due("lay() once more", cat.lay(), parts);
        }
    }

    /** "NO: a FAULT, too few PARTS, JOINTS not one less": then nothing changes. */
    private static void whatIsNotLaid() {
        String[] no = {"", "p1,1,1;p1,1,1;j1;z", "p1,1,1;", "p1,1,1;p1,1,1;", "p1,1,1;p1,1,1;j1;j1;", "p1,1,1;p1,1,1;j1",
            "p1,1,1;p1,1,1;p1,1,1;j1;", "l1;e1;", "p1,1,1;p1,1,1;j1;l10000;"};
        for (String text : no) {
            CatThatTurns cat = inUse();
            Checks.put(cat, text);
            C.due("lay() of " + text, cat.lay(), NO);
            int[] counts = {3, text.length(), 6, 1, 2};
            for (int i = 0; i < counts.length; i++) {
                C.due("count(" + i + ") behind NO", cat.count(i), counts[i]);
            }
            for (int i = 0; i < 9; i++) {
                C.due("load behind NO", cat.load(i / 3, i % 3), 2 + i);
            }
            C.due("joint(0, 0) behind NO", cat.joint(0, 0), 30);
            C.due("joint(0, 1) behind NO", cat.joint(0, 1), 1);
            C.due("joint(1, 0) behind NO", cat.joint(1, 0), 20);
            C.due("begun(0) behind NO", cat.begun(0), 11);
            C.due("begun(1) behind NO", cat.begun(1), 12);
            C.due("back() behind NO", cat.back(), 1);
            C.due("run(0, 0) behind NO", cat.run(0, 0), 2);
        }
        // Nor does a text that is only read.
        CatThatTurns cat = inUse();
        Checks.put(cat, "p1,1,1;p1,1,1;j1;");
        C.due("fault()", cat.fault(), NONE);
        C.due("count(0), not laid", cat.count(0), 3);
        C.due("load(0, 0), not laid", cat.load(0, 0), 2);
    }

    /** Promises 6 to 8: "BAD: (PARTS, JOINTS: such as there are)". */
    private static void askedOfPartsThatThereAre() {
        String[] texts = {"p1,2,3;p4,5,6;j7;l-1;", "p1,2,3;p4,5,6;p7,8,9;j7;w36;l-1;"};
        for (int parts = 2; parts <= 3; parts++) {
            CatThatTurns cat = Checks.laid(texts[parts - 2]);
            int[] asked = {Integer.MIN_VALUE, -2, -1, 0, 1, 2, 3, 4, Integer.MAX_VALUE};
            for (int first : asked) {
                for (int second : asked) {
                    boolean isLoad = first >= 0 && first < parts && second >= 0 && second <= 2;
                    C.due("load", cat.load(first, second), isLoad ? 1 + 3 * first + second : BAD);
                    boolean isJoint = first >= 0 && first < parts - 1 && second >= 0 && second <= 1;
                    int want = second == 0 ? 7 + 29 * first : first;
                    C.due("joint", cat.joint(first, second), isJoint ? want : BAD);
                }
                // -1 is what it is begun with; BAD has another number here.
                C.due("begun", cat.begun(first), first == 0 ? -1 : first == 1 ? 10 : -10000);
            }
        }
    }
}
