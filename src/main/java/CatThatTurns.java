import java.util.Arrays;

/**
 * A cat that turns: bodies of parts round one axis, told in a text; what one part turns, the
 * others turn back. ../shared/DOC.md tells what every call answers; README.md how to use it.
 */
public final class CatThatTurns {
    public static final int BAD = -1, NO = -2, FULL = -3, NONE = -4;

    private static final int BAD_BEGUN = -10000;
    private static final int BAD_PUSHED = -10001;
    private static final int NONE_PUSHED = -10004;

    private static final int CIRCLE = 360;
    private static final int MOST_BYTES = 120;
    private static final int MOST_FIGURES = 4;
    private static final int NO_BYTE = -1;
    private static final int MOST_PARTS = 3;
    private static final int MOST_JOINTS = 2;
    private static final int POSES = 3;
    private static final int POSE_AT_REST = 1;
    private static final int MOST_LOAD = 99;
    private static final int MOST_BENDS = 2;
    private static final int MOST_STEP = 90;
    private static final int MOST_RIGHT = 90;
    private static final int USUAL_RIGHT = 10;
    private static final int LAST_MOVE = 18;
    private static final int FIRST_POSE_MOVE = 10;
    private static final int WAYS = 4;
    private static final int MOST_MOVES = 60;
    private static final int MOST_TIMES = 1000;
    private static final int MOST_TICKS = 200;
    private static final int MOST_FALL = 100000;
    private static final int MOST_PICTURES = 30;
    private static final int NUMBERS_OF_A_PICTURE = 4;
    private static final int MOST_DOUBT = 90;
    private static final int MOST_PUSH = 200;
    private static final int MOST_KEPT = 2;
    /** Nothing, two ways for each joint, two other poses for each part. */
    private static final int MOST_BRANCHES = 11;
    /** 27 poses, 5 steps of a joint that bends, 12 of one that wags, all turns. */
    private static final int MOST_STATES = 27 * 5 * 12 * CIRCLE;
    /** The same, if one of the two joints does not move. */
    private static final int SOME_STATES = 27 * 12 * CIRCLE;
    /** The same with two parts. */
    private static final int FEW_STATES = 9 * 12 * CIRCLE;
    private static final int[] WAG_STEPS = {30, 36, 40, 45, 60, 72, 90, 120};

    private final Text text;
    private final Body body;
    private final Body draft;
    private final Reader reader;
    private final Sheet sheet;
    private final Sheet[] kept;
    private int keptSheets;
    private final Trace trace;
    private final int[] landings;
    private final Loops loops;
    private final Search search;
    private final Search withoutFirst;
    private final Search withoutSecond;

    public CatThatTurns() {
        text = new Text();
        body = new Body();
        draft = new Body();
        reader = new Reader(text, draft);
        sheet = new Sheet();
        kept = new Sheet[MOST_KEPT];
        for (int i = 0; i < kept.length; i++) {
            kept[i] = new Sheet();
        }
        trace = new Trace(body);
        landings = new int[WAYS];
        loops = new Loops(body);
        search = new Search(body, -1);
        withoutFirst = new Search(body, 0);
        withoutSecond = new Search(body, 1);
        body.takesPart(1, 1, 1);
        body.takesPart(1, 1, 1);
        body.takesBend(10);
    }

    // ---- bodies

    public int write(int n, long v) {
        if (!isWithin(n, 1, 8)) {
            return BAD;
        }
        return text.takesBytes(n, v) ? text.length : FULL;
    }

    public int wipe() {
        int was = text.length;
        text.length = 0;
        return was;
    }

    public int fault() {
        return reader.firstFault();
    }

    public int lay() {
        if (reader.firstFault() != NONE || !draft.isWhole()) {
            return NO;
        }
        // What was searched of a body stays true of the same body laid again.
        if (!draft.isAs(body)) {
            body.copyBody(draft);
            search.forget();
            withoutFirst.forget();
            withoutSecond.forget();
        }
        sheet.clear();
        keptSheets = 0;
        return body.parts;
    }

    public int load(int part, int pose) {
        if (!isPart(part) || !isWithin(pose, 0, POSES - 1)) {
            return BAD;
        }
        return body.loadOf(part, pose);
    }

    public int joint(int joint, int what) {
        if (!isJoint(joint) || !isWithin(what, 0, 1)) {
            return BAD;
        }
        if (what == 0) {
            return body.stepOf(joint);
        }
        return body.isWagging(joint) ? 1 : 0;
    }

    public int begun(int what) {
        if (!isWithin(what, 0, 1)) {
            return BAD_BEGUN;
        }
        return what == 0 ? body.push : body.right;
    }

    // ---- ways

    public int move(int way, int move) {
        if (!isWay(way) || !isWithin(move, 0, LAST_MOVE)) {
            return BAD;
        }
        return sheet.addMove(way, move) ? sheet.lengthOf(way) : FULL;
    }

    public int noWay(int way) {
        return isWay(way) ? sheet.clearWay(way) : BAD;
    }

    public int turn(int way, int turn, int t, int part) {
        if (!isWay(way) || !isTurn(turn) || !isWithin(t, 0, MOST_MOVES) || !isPart(part)) {
            return BAD;
        }
        trace.follow(sheet, way);
        if (t > trace.done) {
            return NONE;
        }
        trace.drift(body.push);
        return Math.floorMod(turn + trace.turnOf(t, part), CIRCLE);
    }

    public int run(int way, int what) {
        if (!isWay(way) || !isWithin(what, 0, 3)) {
            return BAD;
        }
        trace.follow(sheet, way);
        if (what == 0) {
            return trace.done;
        }
        boolean holds = what == 1 ? trace.all : what == 2 ? trace.closes() : trace.shape.isStraight();
        return holds ? 1 : 0;
    }

    public int spun(int way) {
        if (!isWay(way)) {
            return BAD;
        }
        trace.follow(sheet, way);
        trace.drift(body.push);
        return Math.floorMod(trace.turnOf(trace.done, 0), CIRCLE);
    }

    public int times(int way, int n) {
        if (!isWay(way) || !isWithin(n, 1, MOST_TIMES)) {
            return BAD;
        }
        trace.follow(sheet, way);
        if (!trace.closes()) {
            return NO;
        }
        trace.drift(body.push);
        return Math.floorMod(Math.floorMod(trace.turnOf(trace.done, 0), CIRCLE) * n, CIRCLE);
    }

    // ---- soon

    public int soon(int turn, int i) {
        if (!isTurn(turn) || i < -1) {
            return BAD;
        }
        int ticks = search.ticksFrom(turn);
        if (ticks < 0 || i >= ticks) {
            return NONE;
        }
        return i < 0 ? ticks : search.moveFrom(turn, i);
    }

    public int fall(int h) {
        return isWithin(h, 0, MOST_FALL) ? ticksOfFall(h) : BAD;
    }

    public int saved(int h) {
        return isWithin(h, 0, MOST_FALL) ? search.turnsWithin(ticksOfFall(h)) : BAD;
    }

    public int free(int joints) {
        if (!isWithin(joints, 0, (1 << body.joints) - 1)) {
            return BAD;
        }
        return loops.turnsBy(joints);
    }

    public int fewest() {
        // Of two joints the sets by how many they are, then by bits, are 1, 2, 3.
        for (int joints = 1; joints < 1 << body.joints; joints++) {
            if (loops.turnsBy(joints) > 1) {
                return joints;
            }
        }
        return NONE;
    }

    public int worth(int joint, int turn) {
        if (!isJoint(joint) || !isTurn(turn)) {
            return BAD;
        }
        int with = search.ticksFrom(turn);
        int without = (joint == 0 ? withoutFirst : withoutSecond).ticksFrom(turn);
        return with < 0 || without < 0 ? NONE : without - with;
    }

    // ---- films, heads

    public int picture(int tick, int part, int turn, int doubt) {
        if (!isWithin(tick, 0, MOST_MOVES) || !isPart(part) || !isTurn(turn)
                || !isWithin(doubt, 0, MOST_DOUBT)) {
            return BAD;
        }
        return sheet.addPicture(tick, part, turn, doubt) ? sheet.pictures : FULL;
    }

    public int noFilm() {
        int were = sheet.pictures;
        sheet.pictures = 0;
        return were;
    }

    public int may(int way, int turn) {
        if (!isWay(way) || !isTurn(turn)) {
            return BAD;
        }
        trace.follow(sheet, way);
        trace.drift(body.push);
        return trace.isFilmed(sheet, turn) ? 1 : 0;
    }

    public int looked(int way, int what) {
        if (!isWay(way) || !isWithin(what, 0, 1)) {
            return BAD;
        }
        trace.follow(sheet, way);
        trace.drift(body.push);
        int found = 0;
        for (int turn = 0; turn < CIRCLE; turn++) {
            if (trace.isFilmed(sheet, turn)) {
                if (what == 1) {
                    return turn;
                }
                found++;
            }
        }
        return what == 1 ? NONE : found;
    }

    public int pushed(int way, int turn, int m, int what) {
        if (!isWay(way) || !isTurn(turn) || !isWithin(m, 0, MOST_PUSH) || !isWithin(what, 0, 1)) {
            return BAD_PUSHED;
        }
        trace.follow(sheet, way);
        int found = 0;
        // From 0 outwards, the lower of two ahead: 0, -1, 1, -2, 2, ..
        for (int i = 0; i <= 2 * m; i++) {
            int push = i % 2 == 1 ? -(i + 1) / 2 : i / 2;
            trace.drift(push);
            if (trace.isFilmed(sheet, turn)) {
                if (what == 1) {
                    return push;
                }
                found++;
            }
        }
        return what == 1 ? NONE_PUSHED : found;
    }

    public int head(int turn, int n) {
        if (!isTurn(turn) || !isWithin(n, 0, MOST_MOVES)) {
            return BAD;
        }
        findLandings(n);
        return firstHead(turn);
    }

    public int down(int n) {
        if (!isWithin(n, 0, MOST_MOVES)) {
            return BAD;
        }
        findLandings(n);
        int found = 0;
        for (int turn = 0; turn < CIRCLE; turn++) {
            if (firstHead(turn) != NONE) {
                found++;
            }
        }
        return found;
    }

    public int keep() {
        if (keptSheets < 0 || keptSheets >= kept.length || kept[keptSheets] == null) {
            return FULL;
        }
        kept[keptSheets].copySheet(sheet);
        keptSheets++;
        return keptSheets;
    }

    public int back() {
        int last = keptSheets - 1;
        if (last < 0 || last >= kept.length || kept[last] == null) {
            return NO;
        }
        sheet.copySheet(kept[last]);
        keptSheets = last;
        return keptSheets;
    }

    public int count(int what) {
        switch (what) {
            case 0:
                return body.parts;
            case 1:
                return text.length;
            case 2:
                return sheet.allMoves();
            case 3:
                return sheet.pictures;
            case 4:
                return keptSheets;
            default:
                return BAD;
        }
    }

    // ---- what the calls share

    private boolean isPart(int part) {
        return isWithin(part, 0, body.parts - 1);
    }

    private boolean isJoint(int joint) {
        return isWithin(joint, 0, body.joints - 1);
    }

    private static boolean isWay(int way) {
        return isWithin(way, 0, WAYS - 1);
    }

    private static boolean isTurn(int turn) {
        return isWithin(turn, 0, CIRCLE - 1);
    }

    private static boolean isWithin(int number, int least, int most) {
        return number >= least && number <= most;
    }

    /** Division that is cut towards 0. */
    private static int cut(int number, int by) {
        return by == 0 ? 0 : number / by;
    }

    /** By how many degrees two turns differ, either way about. */
    private static int off(int turn, int other) {
        int ahead = Math.floorMod(turn - other, CIRCLE);
        return Math.min(ahead, CIRCLE - ahead);
    }

    private static int ticksOfFall(int h) {
        int t = 0;
        while (t < MOST_FALL && (long) (t + 1) * (t + 1) <= h) {
            t++;
        }
        return t;
    }

    /** For each way the turn in which it ends, late by n and begun from 0; NONE if it is no head. */
    private void findLandings(int n) {
        int late = n * cut(body.push, body.loadAtRest());
        for (int way = 0; way < landings.length; way++) {
            trace.follow(sheet, way);
            trace.drift(body.push);
            landings[way] = trace.all && trace.shape.isStraight()
                    ? Math.floorMod(late + trace.turnOf(trace.done, 0), CIRCLE) : NONE;
        }
    }

    private int firstHead(int turn) {
        for (int way = 0; way < landings.length; way++) {
            if (landings[way] != NONE && off(turn + landings[way], 0) <= body.right) {
                return way;
            }
        }
        return NONE;
    }

    /** THE TEXT. */
    private static final class Text {
        private final int[] bytes = new int[MOST_BYTES];
        private int length;

        boolean takesBytes(int n, long v) {
            if (n < 0 || n > MOST_BYTES - length) {
                return false;
            }
            for (int i = n - 1; i >= 0; i--) {
                if (length >= 0 && length < bytes.length) {
                    bytes[length] = (int) (v >>> 8 * i) & 255;
                    length++;
                }
            }
            return true;
        }

        int byteAt(int i) {
            return i >= 0 && i < length && i < bytes.length ? bytes[i] : NO_BYTE;
        }
    }

    /** Reads the items of a text, one behind the other, into a body. */
    private static final class Reader {
        private final Text text;
        private final Body body;
        private final int[] numbers = new int[POSES];
        private int at;

        Reader(Text text, Body body) {
            this.text = text;
            this.body = body;
        }

        /** The place of the first item that is not so; NONE. The body is what stands ahead of it. */
        int firstFault() {
            body.empty();
            at = 0;
            for (int i = 0; i < MOST_BYTES && at < text.length; i++) {
                int start = at;
                if (!readsItem()) {
                    return start;
                }
            }
            return NONE;
        }

        private boolean readsItem() {
            int letter = text.byteAt(at);
            at++;
            for (int i = 0; i < numbers.length; i++) {
                if (!readsNumber(i)) {
                    return false;
                }
                int sign = text.byteAt(at);
                at++;
                if (sign == ';') {
                    return takesItem(letter, i + 1);
                }
                if (sign != ',') {
                    return false;
                }
            }
            return false;
        }

        private boolean readsNumber(int i) {
            boolean isLess = text.byteAt(at) == '-';
            if (isLess) {
                at++;
            }
            int figures = 0;
            int value = 0;
            while (figures < MOST_FIGURES && isWithin(text.byteAt(at), '0', '9')) {
                value = 10 * value + text.byteAt(at) - '0';
                figures++;
                at++;
            }
            if (figures == 0 || isLess && value == 0 || i < 0 || i >= numbers.length) {
                return false;
            }
            numbers[i] = isLess ? -value : value;
            return true;
        }

        private boolean takesItem(int letter, int amount) {
            if (numbers.length < POSES) {
                return false;
            }
            if (letter == 'p') {
                return amount == POSES && body.takesPart(numbers[0], numbers[1], numbers[2]);
            }
            if (amount != 1) {
                return false;
            }
            switch (letter) {
                case 'j':
                    return body.takesBend(numbers[0]);
                case 'w':
                    return body.takesWag(numbers[0]);
                case 'l':
                    return body.takesPush(numbers[0]);
                case 'e':
                    return body.takesRight(numbers[0]);
                default:
                    return false;
            }
        }
    }

    /** What a text tells: parts and joints, how it is begun (push), by how much right may be off. */
    private static final class Body {
        private final int[] loads = new int[MOST_PARTS * POSES];
        private final int[] degrees = new int[MOST_JOINTS];
        private int parts;
        private int joints;
        /** The joint that wags, or NONE; with how many steps it is round. */
        private int wagging = NONE;
        private int stepsRound;
        private int push;
        private int right = USUAL_RIGHT;

        void empty() {
            parts = 0;
            joints = 0;
            wagging = NONE;
            stepsRound = 0;
            push = 0;
            right = USUAL_RIGHT;
        }

        boolean takesPart(int drawnIn, int atRest, int stretched) {
            int at = parts * POSES;
            if (at < 0 || at > loads.length - POSES || !isWithin(drawnIn, 1, MOST_LOAD)
                    || !isWithin(atRest, 1, MOST_LOAD) || !isWithin(stretched, 1, MOST_LOAD)) {
                return false;
            }
            loads[at] = drawnIn;
            loads[at + 1] = atRest;
            loads[at + 2] = stretched;
            parts++;
            return true;
        }

        boolean takesBend(int step) {
            return isWithin(step, 1, MOST_STEP) && takesJoint(step);
        }

        boolean takesWag(int step) {
            boolean isTold = false;
            for (int i = 0; i < WAG_STEPS.length; i++) {
                isTold = isTold || WAG_STEPS[i] == step;
            }
            if (!isTold || wagging != NONE || !takesJoint(step)) {
                return false;
            }
            wagging = joints - 1;
            stepsRound = cut(CIRCLE, step);
            return true;
        }

        private boolean takesJoint(int step) {
            if (joints < 0 || joints >= degrees.length) {
                return false;
            }
            degrees[joints] = step;
            joints++;
            return true;
        }

        boolean takesPush(int begunWith) {
            push = begunWith;
            return true;
        }

        boolean takesRight(int offBy) {
            if (!isWithin(offBy, 0, MOST_RIGHT)) {
                return false;
            }
            right = offBy;
            return true;
        }

        boolean isWhole() {
            return parts >= 2 && joints == parts - 1;
        }

        int loadOf(int part, int pose) {
            int at = part * POSES + pose;
            return pose >= 0 && pose < POSES && at >= 0 && at < loads.length ? loads[at] : 0;
        }

        int loadAtRest() {
            int sum = 0;
            for (int part = 0; part < parts; part++) {
                sum += loadOf(part, POSE_AT_REST);
            }
            return sum;
        }

        int stepOf(int joint) {
            return joint >= 0 && joint < degrees.length ? degrees[joint] : 0;
        }

        boolean isWagging(int joint) {
            return joint == wagging;
        }

        /** In how many steps a joint can stand. */
        int stepsOf(int joint) {
            return isWagging(joint) ? stepsRound : 2 * MOST_BENDS + 1;
        }

        int lowestOf(int joint) {
            return isWagging(joint) ? 0 : -MOST_BENDS;
        }

        boolean isAs(Body other) {
            boolean same = parts == other.parts && joints == other.joints && wagging == other.wagging
                    && push == other.push && right == other.right;
            for (int i = 0; i < loads.length && i < parts * POSES; i++) {
                same = same && i < other.loads.length && loads[i] == other.loads[i];
            }
            for (int j = 0; j < joints; j++) {
                same = same && stepOf(j) == other.stepOf(j);
            }
            return same;
        }

        void copyBody(Body other) {
            for (int i = 0; i < loads.length && i < other.loads.length; i++) {
                loads[i] = other.loads[i];
            }
            for (int j = 0; j < degrees.length && j < other.degrees.length; j++) {
                degrees[j] = other.degrees[j];
            }
            parts = other.parts;
            joints = other.joints;
            wagging = other.wagging;
            stepsRound = other.stepsRound;
            push = other.push;
            right = other.right;
        }
    }

    /** The poses and steps in which a body is, and what a move makes of them. */
    private static final class Shape {
        private final Body body;
        private final int[] poses = new int[MOST_PARTS];
        private final int[] steps = new int[MOST_JOINTS];
        /** The joint that the last move turned, and by how many degrees; 0 if it turned none. */
        private int turnedJoint;
        private int turnedBy;

        Shape(Body body) {
            this.body = body;
        }

        void rest() {
            Arrays.fill(poses, POSE_AT_REST);
            Arrays.fill(steps, 0);
            turnedBy = 0;
        }

        int poseOf(int part) {
            return part >= 0 && part < poses.length ? poses[part] : POSE_AT_REST;
        }

        void takePose(int part, int pose) {
            if (part >= 0 && part < poses.length) {
                poses[part] = pose;
            }
        }

        int stepsAt(int joint) {
            return joint >= 0 && joint < steps.length ? steps[joint] : 0;
        }

        void takeSteps(int joint, int many) {
            if (joint >= 0 && joint < steps.length) {
                steps[joint] = many;
            }
        }

        boolean isStraight() {
            for (int j = 0; j < steps.length && j < body.joints; j++) {
                if (steps[j] != 0) {
                    return false;
                }
            }
            return true;
        }

        boolean isAtRest() {
            for (int k = 0; k < poses.length && k < body.parts; k++) {
                if (poses[k] != POSE_AT_REST) {
                    return false;
                }
            }
            return isStraight();
        }

        /** The loads of a part and all behind it. */
        int loadFrom(int part) {
            int sum = 0;
            for (int k = Math.max(part, 0); k < poses.length && k < body.parts; k++) {
                sum += body.loadOf(k, poses[k]);
            }
            return sum;
        }

        /** By how much a part is turned beyond part 0. */
        int bentTo(int part) {
            int sum = 0;
            for (int j = 0; j < steps.length && j < body.joints && j < part; j++) {
                sum += body.stepOf(j) * steps[j];
            }
            return sum;
        }

        /** By how much the last move turns part 0, leaving aside what the body is begun with. */
        int lastTurn() {
            return turnedBy == 0 ? 0 : -cut(turnedBy * loadFrom(turnedJoint + 1), loadFrom(0));
        }

        /** Makes a move; false if it fails, and then nothing is changed. */
        boolean makes(int move) {
            if (move < 0 || move > LAST_MOVE) {
                return false;
            }
            if (move >= FIRST_POSE_MOVE) {
                return makesPose((move - FIRST_POSE_MOVE) / POSES, (move - FIRST_POSE_MOVE) % POSES);
            }
            if (move > 0) {
                return makesStep((move - 1) / 2, move % 2 == 1 ? 1 : -1);
            }
            turnedBy = 0;
            return true;
        }

        private boolean makesPose(int part, int pose) {
            if (part < 0 || part >= poses.length || part >= body.parts || poses[part] == pose) {
                return false;
            }
            poses[part] = pose;
            turnedBy = 0;
            return true;
        }

        private boolean makesStep(int joint, int by) {
            if (joint < 0 || joint >= steps.length || joint >= body.joints) {
                return false;
            }
            int step = steps[joint] + by;
            if (body.isWagging(joint)) {
                step = Math.floorMod(step, Math.max(body.stepsRound, 1));
            } else if (!isWithin(step, -MOST_BENDS, MOST_BENDS)) {
                return false;
            }
            steps[joint] = step;
            turnedJoint = joint;
            turnedBy = by * body.stepOf(joint);
            return true;
        }
    }

    /** What is kept: the ways and the pictures. */
    private static final class Sheet {
        private final int[] moves = new int[WAYS * MOST_MOVES];
        private final int[] lengths = new int[WAYS];
        private final int[] film = new int[MOST_PICTURES * NUMBERS_OF_A_PICTURE];
        private int pictures;

        void clear() {
            Arrays.fill(lengths, 0);
            pictures = 0;
        }

        void copySheet(Sheet other) {
            for (int i = 0; i < moves.length && i < other.moves.length; i++) {
                moves[i] = other.moves[i];
            }
            for (int i = 0; i < lengths.length && i < other.lengths.length; i++) {
                lengths[i] = other.lengths[i];
            }
            for (int i = 0; i < film.length && i < other.film.length; i++) {
                film[i] = other.film[i];
            }
            pictures = other.pictures;
        }

        int lengthOf(int way) {
            return way >= 0 && way < lengths.length ? lengths[way] : 0;
        }

        int allMoves() {
            int sum = 0;
            for (int way = 0; way < lengths.length; way++) {
                sum += lengths[way];
            }
            return sum;
        }

        int clearWay(int way) {
            int had = lengthOf(way);
            if (way >= 0 && way < lengths.length) {
                lengths[way] = 0;
            }
            return had;
        }

        boolean addMove(int way, int move) {
            if (way < 0 || way >= lengths.length || lengths[way] >= MOST_MOVES) {
                return false;
            }
            int at = way * MOST_MOVES + lengths[way];
            if (at < 0 || at >= moves.length) {
                return false;
            }
            moves[at] = move;
            lengths[way]++;
            return true;
        }

        int moveAt(int way, int t) {
            int at = way * MOST_MOVES + t;
            return at >= 0 && at < moves.length ? moves[at] : 0;
        }

        boolean addPicture(int tick, int part, int turn, int doubt) {
            int at = pictures * NUMBERS_OF_A_PICTURE;
            if (at < 0 || at > film.length - NUMBERS_OF_A_PICTURE) {
                return false;
            }
            film[at] = tick;
            film[at + 1] = part;
            film[at + 2] = turn;
            film[at + 3] = doubt;
            pictures++;
            return true;
        }

        int pictureOf(int picture, int number) {
            int at = picture * NUMBERS_OF_A_PICTURE + number;
            return at >= 0 && at < film.length ? film[at] : 0;
        }
    }

    /** A way that is run from turn 0, at rest: where the parts are behind each move. */
    private static final class Trace {
        private final Shape shape;
        private final Body body;
        /** Behind t moves at t times three and a part: its turn, leaving aside what it is begun with. */
        private final int[] turned = new int[(MOST_MOVES + 1) * MOST_PARTS];
        private final int[] loads = new int[MOST_MOVES + 1];
        /** By how much the body has turned behind t moves by what it is begun with. */
        private final int[] drifted = new int[MOST_MOVES + 1];
        private int done;
        private boolean all;

        Trace(Body body) {
            this.body = body;
            shape = new Shape(body);
        }

        void follow(Sheet sheet, int way) {
            shape.rest();
            int turn = 0;
            done = 0;
            note(turn);
            int length = Math.min(sheet.lengthOf(way), MOST_MOVES);
            for (int t = 0; t < length && shape.makes(sheet.moveAt(way, t)); t++) {
                done = t + 1;
                turn += shape.lastTurn();
                note(turn);
            }
            all = done == length;
        }

        private void note(int turn) {
            if (done < 0 || done >= loads.length) {
                return;
            }
            loads[done] = shape.loadFrom(0);
            for (int part = 0; part < body.parts; part++) {
                int at = done * MOST_PARTS + part;
                if (at < turned.length) {
                    turned[at] = turn + shape.bentTo(part);
                }
            }
        }

        /** Reckons what the way that is followed comes to, if it is begun with so much. */
        void drift(int push) {
            int sum = 0;
            for (int t = 1; t <= done && t < drifted.length && t < loads.length; t++) {
                sum += cut(push, loads[t]);
                drifted[t] = sum;
            }
        }

        boolean closes() {
            return all && shape.isAtRest();
        }

        /** By how much a part is turned behind t moves; any degrees, also beyond a circle. */
        int turnOf(int t, int part) {
            int at = t * MOST_PARTS + part;
            return t >= 0 && t < drifted.length && at >= 0 && at < turned.length ? turned[at] + drifted[t] : 0;
        }

        boolean isFilmed(Sheet sheet, int turn) {
            for (int i = 0; i < sheet.pictures; i++) {
                int tick = sheet.pictureOf(i, 0);
                if (tick > done) {
                    return false;
                }
                int is = turn + turnOf(tick, sheet.pictureOf(i, 1));
                if (off(is, sheet.pictureOf(i, 2)) > sheet.pictureOf(i, 3)) {
                    return false;
                }
            }
            return true;
        }
    }

    /** How many turns a body comes to by moves that lead from rest to rest, begun with nothing. */
    private static final class Loops {
        private final Body body;
        private final Shape shape;

        Loops(Body body) {
            this.body = body;
            shape = new Shape(body);
        }

        /**
         * Begun with nothing, poses turn nobody, and a joint's step turns part 0 by the same from
         * wherever the joints are. So what rows from rest to rest come to is put together of a step
         * there in some poses and back in others, and of a wag once round: the turns are all that
         * such differences and a whole circle measure out.
         */
        int turnsBy(int joints) {
            int measure = CIRCLE;
            for (int j = 0; j < body.joints; j++) {
                if ((joints >> j & 1) == 1) {
                    measure = measureWith(measure, j);
                }
            }
            return cut(CIRCLE, measure);
        }

        private int measureWith(int measure, int joint) {
            shape.rest();
            shape.makes(1 + 2 * joint);
            int atRest = shape.lastTurn();
            int found = body.isWagging(joint) ? common(measure, body.stepsOf(joint) * atRest) : measure;
            for (int pose0 = 0; pose0 < POSES; pose0++) {
                for (int pose1 = 0; pose1 < POSES; pose1++) {
                    for (int pose2 = 0; pose2 < POSES; pose2++) {
                        shape.takePose(0, pose0);
                        shape.takePose(1, pose1);
                        shape.takePose(2, pose2);
                        found = common(found, shape.lastTurn() - atRest);
                    }
                }
            }
            return found;
        }

        private static int common(int a, int b) {
            int x = Math.abs(a);
            int y = Math.abs(b);
            for (int i = 0; i < CIRCLE && y != 0; i++) {
                int rest = x % y;
                x = y;
                y = rest;
            }
            return x;
        }
    }

    /** The shapes of a body by numbers, and for each shape the moves that don't fail there. */
    private static final class Table {
        private static final int SHAPE_AT = 5;
        private static final int TURN_AT = 16;
        private final Body body;
        private final Shape shape;
        private final int stiffJoint;
        private final int[] places = new int[MOST_JOINTS];
        private final int[] lowest = new int[MOST_JOINTS];
        private int shapes;
        private int firstStraight;
        private int lastStraight;
        private int[] branches = new int[0];
        private int[] amounts = new int[0];

        Table(Body body, int stiffJoint) {
            this.body = body;
            this.stiffJoint = stiffJoint;
            shape = new Shape(body);
        }

        /** Makes ready for the body as it is now; a shape's moves are told when it is asked for. */
        void numberShapes() {
            int poses = 1;
            for (int k = 0; k < body.parts; k++) {
                poses *= POSES;
            }
            shapes = poses;
            for (int j = 0; j < places.length && j < lowest.length; j++) {
                boolean turns = j < body.joints && j != stiffJoint;
                places[j] = turns ? Math.max(body.stepsOf(j), 1) : 1;
                lowest[j] = turns ? body.lowestOf(j) : 0;
                shapes *= places[j];
            }
            if (amounts.length < shapes) {
                amounts = new int[shapes];
                branches = new int[shapes * MOST_BRANCHES];
            }
            Arrays.fill(amounts, 0);
            shape.rest();
            for (int k = 0; k < body.parts; k++) {
                shape.takePose(k, 0);
            }
            firstStraight = numberNow();
            lastStraight = firstStraight + poses - 1;
        }

        int numberAtRest() {
            shape.rest();
            return numberNow();
        }

        boolean isStraightAt(int number) {
            return number >= firstStraight && number <= lastStraight;
        }

        private int numberNow() {
            int number = 0;
            for (int j = Math.min(places.length, lowest.length) - 1; j >= 0; j--) {
                number = number * places[j] + shape.stepsAt(j) - lowest[j];
            }
            for (int k = body.parts - 1; k >= 0; k--) {
                number = number * POSES + shape.poseOf(k);
            }
            return number;
        }

        private void become(int number) {
            int rest = number;
            for (int k = 0; k < body.parts; k++) {
                shape.takePose(k, rest % POSES);
                rest /= POSES;
            }
            for (int j = 0; j < places.length && j < lowest.length; j++) {
                int many = Math.max(places[j], 1);
                shape.takeSteps(j, rest % many + lowest[j]);
                rest /= many;
            }
        }

        /** How many moves don't fail in a shape. */
        int branchesOf(int number) {
            if (number < 0 || number >= amounts.length) {
                return 0;
            }
            if (amounts[number] == 0) {
                amounts[number] = findBranches(number);
            }
            return amounts[number];
        }

        private int findBranches(int from) {
            int found = 0;
            become(from);
            for (int move = 0; move <= LAST_MOVE; move++) {
                int at = from * MOST_BRANCHES + found;
                if (!isStiff(move) && at >= 0 && at < branches.length && shape.makes(move)) {
                    int turn = shape.lastTurn() + cut(body.push, shape.loadFrom(0));
                    branches[at] = move | numberNow() << SHAPE_AT | Math.floorMod(turn, CIRCLE) << TURN_AT;
                    found++;
                    become(from);
                }
            }
            return found;
        }

        private boolean isStiff(int move) {
            return move > 0 && move < FIRST_POSE_MOVE && (move - 1) / 2 == stiffJoint;
        }

        int branch(int number, int i) {
            int at = number * MOST_BRANCHES + i;
            return at >= 0 && at < branches.length ? branches[at] : 0;
        }

        /** The branch that leads from a shape to another; two moves never lead to the same. */
        int branchBetween(int from, int to) {
            int many = branchesOf(from);
            for (int i = 0; i < many; i++) {
                if (shapeOf(branch(from, i)) == to) {
                    return branch(from, i);
                }
            }
            return 0;
        }

        static int moveOf(int branch) {
            return branch & (1 << SHAPE_AT) - 1;
        }

        static int shapeOf(int branch) {
            return branch >> SHAPE_AT & (1 << TURN_AT - SHAPE_AT) - 1;
        }

        static int angleOf(int branch) {
            return branch >> TURN_AT;
        }
    }

    /**
     * From rest outwards, tick by tick, all states (a shape, and by how much part 0 has turned).
     * What a move does hangs on the shape alone, so one search serves all turns from which it may
     * start. States are taken in the order in which they are found and moves in theirs, so each is
     * found first by the first of the shortest rows. The search stops when the answer is there and
     * goes on from there when more is asked.
     */
    private static final class Search {
        /** A state's link: the state found next, and above it the shape from which it was found. */
        private static final int NEXT_BITS = 20;
        private static final int NO_NEXT = (1 << NEXT_BITS) - 1;
        private static final int NOT_FOUND = -1;
        private final Body body;
        private final Table table;
        private final int[] ticks = new int[CIRCLE];
        private final int[] ends = new int[CIRCLE];
        private int[] links = new int[0];
        private boolean isReady;
        private boolean isOpen;
        private int first;
        private int last;
        private int lastOfTick;
        private int tick;
        private int answered;

        Search(Body body, int stiffJoint) {
            this.body = body;
            table = new Table(body, stiffJoint);
        }

        void forget() {
            isReady = false;
        }

        /** The fewest ticks from a turn; below 0 if there are none. */
        int ticksFrom(int turn) {
            prepare();
            if (turn < 0 || turn >= ticks.length) {
                return NOT_FOUND;
            }
            for (int i = 0; i < MOST_STATES && isOpen && ticks[turn] == NOT_FOUND; i++) {
                expandFirst();
            }
            return ticks[turn];
        }

        /** From how many turns there are no more ticks than so many. */
        int turnsWithin(int most) {
            prepare();
            for (int i = 0; i < MOST_STATES && isOpen && tick < most; i++) {
                expandFirst();
            }
            int found = 0;
            for (int turn = 0; turn < ticks.length; turn++) {
                if (isWithin(ticks[turn], 0, most)) {
                    found++;
                }
            }
            return found;
        }

        /** The i-th move from a turn whose ticks are found and are more than i. */
        int moveFrom(int turn, int i) {
            int move = NONE;
            if (turn < 0 || turn >= ticks.length || turn >= ends.length) {
                return move;
            }
            int state = ends[turn];
            for (int t = ticks[turn]; t > i && state >= 0 && state < links.length; t--) {
                int from = links[state] >> NEXT_BITS;
                int branch = table.branchBetween(from, state / CIRCLE);
                move = Table.moveOf(branch);
                state = from * CIRCLE + Math.floorMod(state % CIRCLE - Table.angleOf(branch), CIRCLE);
            }
            return move;
        }

        private void prepare() {
            if (isReady) {
                return;
            }
            isReady = true;
            isOpen = true;
            table.numberShapes();
            makeRoom(table.shapes * CIRCLE);
            Arrays.fill(links, NOT_FOUND);
            Arrays.fill(ticks, NOT_FOUND);
            tick = 0;
            answered = 0;
            int atRest = table.numberAtRest();
            first = atRest * CIRCLE;
            last = first;
            lastOfTick = first;
            if (first >= 0 && first < links.length) {
                links[first] = atRest << NEXT_BITS | NO_NEXT;
            }
            answer(0, first, 0);
        }

        /** Few sizes, so that bodies that grow little by little don't cost a row each. */
        private void makeRoom(int states) {
            int room = states <= FEW_STATES ? FEW_STATES : states <= SOME_STATES ? SOME_STATES : MOST_STATES;
            if (links.length < room) {
                links = new int[room];
            }
        }

        private void expandFirst() {
            int shape = first / CIRCLE;
            int turned = first % CIRCLE;
            int many = table.branchesOf(shape);
            for (int i = 0; i < many; i++) {
                int branch = table.branch(shape, i);
                int turn = turned + Table.angleOf(branch);
                int state = Table.shapeOf(branch) * CIRCLE + (turn < CIRCLE ? turn : turn - CIRCLE);
                if (state >= 0 && state < links.length && links[state] == NOT_FOUND) {
                    links[state] = shape << NEXT_BITS | NO_NEXT;
                    enqueue(state);
                }
            }
            goOn();
        }

        private void enqueue(int state) {
            if (last >= 0 && last < links.length) {
                links[last] = links[last] & ~NO_NEXT | state;
            }
            last = state;
            if (table.isStraightAt(state / CIRCLE)) {
                answer(state % CIRCLE, state, tick + 1);
            }
        }

        /** All turns that are right by so much turning are answered, but those that were before. */
        private void answer(int turned, int state, int behind) {
            for (int off = -body.right; off <= body.right; off++) {
                int turn = Math.floorMod(off - turned, CIRCLE);
                if (turn < ticks.length && turn < ends.length && ticks[turn] == NOT_FOUND) {
                    ticks[turn] = behind;
                    ends[turn] = state;
                    answered++;
                }
            }
        }

        private void goOn() {
            if (first == lastOfTick) {
                tick++;
                lastOfTick = last;
            }
            if (first == last || tick >= MOST_TICKS || answered >= CIRCLE || first < 0 || first >= links.length) {
                isOpen = false;
            } else {
                first = links[first] & NO_NEXT;
            }
        }
    }
}
