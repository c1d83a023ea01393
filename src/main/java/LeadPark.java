import java.util.Arrays;
import java.util.NoSuchElementException;

/**
 * A park in which a man and a dog walk by ways of their own, joined by a lead.
 *
 * <p>The promises that this class keeps are numbered in the document; README.md says how to use it.
 * All rows are made with the object and used again: a call makes nothing but the exception it throws.
 */
public final class LeadPark {
    public static final int NONE = -1;

    private static final int MAX_TAPE = 400;
    private static final int MAX_WAYS = 12;
    private static final int MAX_CORNERS = 30;
    private static final int MAX_WALLS = 8;
    private static final int MAX_TEXTS = 16;
    private static final int MAX_PARK_LINES = 14;
    private static final int MAX_LAW_LINES = 12;
    private static final int MAX_DEPTH = 6;
    private static final int MAX_COORDINATE = 999;
    private static final int MAX_MINUTE = 999;
    private static final int MAX_LENGTH = 999;
    private static final int MAX_PACE = 99;
    private static final int MAX_PARTS = 8;
    private static final int MAX_MARKS = 20;
    private static final int MAX_REMEMBERED = 40;
    private static final int MAX_DRAWN = 60;
    private static final int MAX_STEPS = 2 * (MAX_CORNERS - 1);
    private static final int SHORT_DIGITS = 3;
    private static final int LONG_DIGITS = 7;
    private static final int MAN_ALONE = 1;
    private static final int BOTH = 3;
    private static final int BEGIN_FAILS = -2;
    /** The price of a PLACE where nobody may stand; more than any FAR, and than any sum of them. */
    private static final int FORBIDDEN = 0x7fffffff;

    private final Tape tape = new Tape();
    private final Scene scene = new Scene();
    private final Scene kept = new Scene();
    private final Ground draftGround = new Ground();
    private final Law draftLaw = new Law();
    private final Grid grid = new Grid();
    private final Pack pack = new Pack();
    private final Pieces pieces = new Pieces();
    private final Thinning thinning = new Thinning();
    private boolean imageKept = false;
    private int wrongByte = NONE;

    public LeadPark() {
    }

    public int feed(int a, int b, int c, int d, int e) {
        if (!tape.hasRoomFor(20)) {
            return NONE;
        }
        tape.append(a);
        tape.append(b);
        tape.append(c);
        tape.append(d);
        tape.append(e);
        return tape.size;
    }

    public boolean end(int n) {
        if (n < 0 || n > tape.size) {
            return false;
        }
        tape.size = n;
        return true;
    }

    public int park() throws IllegalArgumentException, UnsupportedOperationException {
        draftGround.copyFrom(scene.ground);
        boolean right = draftGround.readText(tape);
        useUpText(right);
        if (!right) {
            throw new IllegalArgumentException("the text of the park is wrong");
        }
        if (scene.ground.texts >= MAX_TEXTS) {
            throw new UnsupportedOperationException("there are 16 texts of the park");
        }
        draftGround.texts++;
        scene.ground.copyFrom(draftGround);
        scene.stroll.underWay = false;
        return scene.ground.texts;
    }

    public int law() throws IllegalArgumentException {
        boolean right = draftLaw.readText(tape);
        useUpText(right);
        if (!right) {
            throw new IllegalArgumentException("the text of the law is wrong");
        }
        scene.law.copyFrom(draftLaw);
        scene.stroll.underWay = false;
        return scene.law.lines;
    }

    public int fault() {
        return wrongByte;
    }

    public int corner(int way, int corner, boolean up) throws IndexOutOfBoundsException {
        needCorner(way, corner);
        return up ? scene.ground.yOf(way, corner) : scene.ground.xOf(way, corner);
    }

    public int corners(int way) throws IndexOutOfBoundsException {
        needWay(way);
        return scene.ground.counts[way];
    }

    public int far(int way, int m, int other, int d) throws IndexOutOfBoundsException {
        needCorner(way, m);
        needCorner(other, d);
        return scene.ground.distance(way, m, other, d);
    }

    public boolean shut(int way, int m, int other, int d) throws IndexOutOfBoundsException {
        needCorner(way, m);
        needCorner(other, d);
        return scene.isShut(way, m, other, d);
    }

    public int least(int way, int other) throws IndexOutOfBoundsException {
        needWay(way);
        needWay(other);
        return shortest(way, other);
    }

    public int first(int way, int other, int k) throws IndexOutOfBoundsException, IllegalArgumentException {
        needWay(way);
        needWay(other);
        if (k < NONE) {
            throw new IllegalArgumentException("no such step");
        }
        return shortest(way, other) == NONE ? NONE : grid.firstWalk(k);
    }

    public int bars(int way, int other) throws IndexOutOfBoundsException {
        needWay(way);
        needWay(other);
        return shortest(way, other) == NONE ? NONE : grid.farthestOfFirstWalk();
    }

    public int judge(int way, int other, int lead) throws IndexOutOfBoundsException, IllegalArgumentException {
        // The bytes stay readable behind the size, which is set to 0 ahead of any throw.
        int steps = tape.size;
        tape.size = 0;
        needWay(way);
        needWay(other);
        if (lead < 0 || !tape.holdsStepsUpTo(steps)) {
            throw new IllegalArgumentException("no lead, or no steps");
        }
        if (!scene.allows(way, 0, other, 0, lead)) {
            return BEGIN_FAILS;
        }
        int m = 0;
        int d = 0;
        for (int k = 0; k < steps; k++) {
            int step = tape.stepAt(k);
            m += manMoves(step);
            d += dogMoves(step);
            if (!scene.allows(way, m, other, d, lead)) {
                return k;
            }
        }
        return NONE;
    }

    public long parts(int way, int other, int n) throws IndexOutOfBoundsException, IllegalArgumentException {
        needWay(way);
        needWay(other);
        if (n < 1 || n > MAX_PARTS) {
            throw new IllegalArgumentException("an edge cannot be parted so");
        }
        return pieces.leastLead(scene.ground, way, other, n);
    }

    public int back(int way, int other) throws IndexOutOfBoundsException {
        needWay(way);
        needWay(other);
        grid.lay(scene, way, other);
        return orNone(grid.leastGoingBack());
    }

    public int ring(int way, int other, boolean begin) throws IndexOutOfBoundsException {
        needWay(way);
        needWay(other);
        grid.lay(scene, way, other);
        return grid.leastRound(begin);
    }

    public int dogs(int way, int one, int other) throws IndexOutOfBoundsException {
        needWay(way);
        needWay(one);
        needWay(other);
        return orNone(pack.leastLead(scene, way, one, other, false));
    }

    public int three(int way, int one, int other) throws IndexOutOfBoundsException {
        needWay(way);
        needWay(one);
        needWay(other);
        return orNone(pack.leastLead(scene, way, one, other, true));
    }

    public long drag(int way, int other) throws IndexOutOfBoundsException {
        needWay(way);
        needWay(other);
        grid.lay(scene, way, other);
        return orNone(grid.leastSum());
    }

    public int nearest(int way, int set) throws IndexOutOfBoundsException {
        needWay(way);
        return nearestOf(way, set);
    }

    public int middle(int set) {
        int chosen = NONE;
        int least = FORBIDDEN;
        for (int way = 0; way < scene.ground.ways; way++) {
            if (!isIn(set, way)) {
                continue;
            }
            int greatest = greatestToOthers(way, set);
            if (greatest != NONE && greatest < least) {
                least = greatest;
                chosen = way;
            }
        }
        return chosen;
    }

    public int fewer(int way, int lead) throws IndexOutOfBoundsException, IllegalArgumentException {
        needWay(way);
        if (lead < 0) {
            throw new IllegalArgumentException("no lead is below 0");
        }
        return thinning.fewestCorners(scene.ground, way, lead);
    }

    public int own(int set) {
        return greatestOfPairs(set);
    }

    public boolean forged(int way, int set) throws IndexOutOfBoundsException {
        needWay(way);
        int greatest = greatestOfPairs(set);
        int closest = nearestOf(way, set);
        return greatest == NONE || closest == NONE || shortest(way, closest) > greatest;
    }

    public int mark(boolean dog, int minute, int x, int y)
            throws IllegalArgumentException, UnsupportedOperationException {
        if (isOutside(minute, MAX_MINUTE) || isOutside(x, MAX_COORDINATE) || isOutside(y, MAX_COORDINATE)) {
            throw new IllegalArgumentException("no such minute or point");
        }
        if (scene.marks.size >= MAX_MARKS) {
            throw new UnsupportedOperationException("there are 20 marks");
        }
        return scene.marks.add(dog, minute, x, y);
    }

    public int unmark() {
        if (scene.marks.size == 0) {
            return NONE;
        }
        scene.marks.size--;
        return scene.marks.size;
    }

    public int needed() {
        return scene.marks.greatestOfOneMinute();
    }

    public int fits(int length, int pace, boolean pair) throws IllegalArgumentException {
        if (isOutside(length, MAX_LENGTH) || isOutside(pace, MAX_PACE)) {
            throw new IllegalArgumentException("no such length or pace");
        }
        return pair ? scene.marks.firstMisfit(length, pace) : scene.marks.countMisfits(length, pace);
    }

    public boolean begin(int way, int other, int lead) throws IndexOutOfBoundsException, IllegalArgumentException {
        needWay(way);
        needWay(other);
        if (lead < 0) {
            throw new IllegalArgumentException("no lead is below 0");
        }
        if (!scene.allows(way, 0, other, 0, lead)) {
            return false;
        }
        scene.stroll.start(way, other, lead, scene.ground.distance(way, 0, other, 0));
        return true;
    }

    public int step(int step) throws IllegalArgumentException {
        if (step < MAN_ALONE || step > BOTH) {
            throw new IllegalArgumentException("no such step");
        }
        if (!scene.canGo(step)) {
            return NONE;
        }
        return scene.go(step);
    }

    public int undo() {
        return scene.stroll.takeBack();
    }

    public int live(int steps) throws IllegalArgumentException {
        if (steps < 1 || steps > MAX_DRAWN) {
            throw new IllegalArgumentException("so many steps are not drawn");
        }
        int gone = 0;
        for (int k = 0; k < steps; k++) {
            int step = scene.drawStep();
            if (step == NONE) {
                break;
            }
            scene.go(step);
            gone++;
        }
        return gone;
    }

    public int on(int what) throws NoSuchElementException {
        if (what < 0 || what > 6) {
            throw new NoSuchElementException("a walk tells no such thing");
        }
        return scene.stroll.underWay ? toldOfStroll(what) : NONE;
    }

    public int seed(int n) {
        int before = scene.drawSeed;
        scene.drawSeed = n;
        return before;
    }

    public void image() {
        kept.copyFrom(scene);
        imageKept = true;
    }

    public boolean again() {
        if (!imageKept) {
            return false;
        }
        scene.copyFrom(kept);
        return true;
    }

    public int count(int what) {
        switch (what) {
            case 0:
                return scene.ground.ways;
            case 1:
                return scene.ground.wallCount;
            case 2:
                return scene.ground.texts;
            case 3:
                return scene.law.lines;
            case 4:
                return scene.marks.size;
            case 5:
                return scene.ground.allCorners();
            default:
                return NONE;
        }
    }

    /** A text that is read is gone from the TAPE, and tells its fault, whether or not the call then throws. */
    private void useUpText(boolean right) {
        wrongByte = right ? NONE : tape.here;
        tape.size = 0;
    }

    private void needWay(int way) {
        if (!scene.ground.hasWay(way)) {
            throw new IndexOutOfBoundsException("no such way");
        }
    }

    private void needCorner(int way, int corner) {
        if (!scene.ground.hasCorner(way, corner)) {
            throw new IndexOutOfBoundsException("no such corner");
        }
    }

    /** LEAST of two WAYS that there are; the grid keeps what it found for a walk by it. */
    private int shortest(int way, int other) {
        grid.lay(scene, way, other);
        return orNone(grid.settle(grid.rows, grid.columns, 0));
    }

    private int nearestOf(int way, int set) {
        int chosen = NONE;
        int least = FORBIDDEN;
        for (int other = 0; other < scene.ground.ways; other++) {
            if (other == way || !isIn(set, other)) {
                continue;
            }
            int lead = shortest(way, other);
            if (lead != NONE && lead < least) {
                least = lead;
                chosen = other;
            }
        }
        return chosen;
    }

    private int greatestToOthers(int way, int set) {
        int greatest = 0;
        for (int other = 0; other < scene.ground.ways; other++) {
            if (other == way || !isIn(set, other)) {
                continue;
            }
            int lead = shortest(way, other);
            if (lead == NONE) {
                return NONE;
            }
            greatest = Math.max(greatest, lead);
        }
        return greatest;
    }

    private int greatestOfPairs(int set) {
        int greatest = 0;
        for (int way = 0; way < scene.ground.ways; way++) {
            for (int other = way + 1; other < scene.ground.ways; other++) {
                if (!isIn(set, way) || !isIn(set, other)) {
                    continue;
                }
                int lead = shortest(way, other);
                if (lead == NONE) {
                    return NONE;
                }
                greatest = Math.max(greatest, lead);
            }
        }
        return greatest;
    }

    private int toldOfStroll(int what) {
        Stroll stroll = scene.stroll;
        switch (what) {
            case 0:
                return stroll.man;
            case 1:
                return stroll.dog;
            case 2:
                return stroll.gone;
            case 3:
                return stroll.greatest;
            case 4:
                return scene.isStrollOver() ? 1 : 0;
            case 5:
                return stroll.remembered;
            default:
                return stroll.lead;
        }
    }

    private static int orNone(int price) {
        return price == FORBIDDEN ? NONE : price;
    }

    private static boolean isIn(int set, int way) {
        return (set >> way & 1) == 1;
    }

    private static boolean isOutside(int number, int greatest) {
        return number < 0 || number > greatest;
    }

    private static int manMoves(int step) {
        return step & 1;
    }

    private static int dogMoves(int step) {
        return step >> 1;
    }

    /** The bytes that were fed, and the things in them (words, numbers, signs), one after another. */
    private static final class Tape {
        private final byte[] bytes = new byte[MAX_TAPE];
        private int size = 0;
        /** Where the thing at hand begins: the text's length, if there is none more. */
        private int here = 0;
        private int behind = 0;
        /** How many digits the thing at hand has: 0, if it is no number. */
        private int digits = 0;
        private int value = 0;

        boolean hasRoomFor(int more) {
            return size + more <= MAX_TAPE;
        }

        void append(int number) {
            for (int shift = 24; shift >= 0 && size < MAX_TAPE; shift -= 8) {
                bytes[size] = (byte) (number >> shift);
                size++;
            }
        }

        boolean holdsStepsUpTo(int length) {
            for (int k = 0; k < length && k < MAX_TAPE; k++) {
                if (stepAt(k) < MAN_ALONE || stepAt(k) > BOTH) {
                    return false;
                }
            }
            return true;
        }

        int stepAt(int k) {
            return bytes[k] - '0';
        }

        void toFirst() {
            behind = 0;
            toNext();
        }

        void toNext() {
            here = behind;
            while (here < size && bytes[here] == ' ') {
                here++;
            }
            behind = here;
            digits = 0;
            value = 0;
            if (here >= size) {
                return;
            }
            if (bytes[here] >= 'a' && bytes[here] <= 'z') {
                passWord();
            } else if (bytes[here] >= '0' && bytes[here] <= '9') {
                passNumber();
            } else {
                behind++;
            }
        }

        private void passWord() {
            while (behind < size && bytes[behind] >= 'a' && bytes[behind] <= 'z') {
                behind++;
            }
        }

        private void passNumber() {
            while (behind < size && bytes[behind] >= '0' && bytes[behind] <= '9') {
                // A longer number is wrong whatever it tells, so it need not be told.
                if (digits < LONG_DIGITS) {
                    value = value * 10 + (bytes[behind] - '0');
                }
                digits++;
                behind++;
            }
        }

        boolean isOver() {
            return here >= size;
        }

        boolean isNumber(int mostDigits) {
            return digits >= 1 && digits <= mostDigits;
        }

        boolean isSign(char sign) {
            return here < size && bytes[here] == sign;
        }

        boolean isWord(String word) {
            if (behind - here != word.length()) {
                return false;
            }
            for (int k = 0; k < word.length(); k++) {
                if (bytes[here + k] != word.charAt(k)) {
                    return false;
                }
            }
            return true;
        }
    }

    /** The WAYS and WALLS that were told. */
    private static final class Ground {
        private final int[] xs = new int[MAX_WAYS * MAX_CORNERS];
        private final int[] ys = new int[MAX_WAYS * MAX_CORNERS];
        private final int[] counts = new int[MAX_WAYS];
        /** Of each WALL X Y X Y. */
        private final int[] walls = new int[MAX_WALLS * 4];
        private int ways = 0;
        private int wallCount = 0;
        private int texts = 0;

        void copyFrom(Ground model) {
            System.arraycopy(model.xs, 0, xs, 0, xs.length);
            System.arraycopy(model.ys, 0, ys, 0, ys.length);
            System.arraycopy(model.counts, 0, counts, 0, counts.length);
            System.arraycopy(model.walls, 0, walls, 0, walls.length);
            ways = model.ways;
            wallCount = model.wallCount;
            texts = model.texts;
        }

        boolean hasWay(int way) {
            return way >= 0 && way < ways;
        }

        boolean hasCorner(int way, int corner) {
            return hasWay(way) && corner >= 0 && corner < counts[way];
        }

        int xOf(int way, int corner) {
            return xs[way * MAX_CORNERS + corner];
        }

        int yOf(int way, int corner) {
            return ys[way * MAX_CORNERS + corner];
        }

        int allCorners() {
            int sum = 0;
            for (int way = 0; way < ways; way++) {
                sum += counts[way];
            }
            return sum;
        }

        int distance(int way, int m, int other, int d) {
            int at = way * MAX_CORNERS + m;
            int otherAt = other * MAX_CORNERS + d;
            int right = xs[at] - xs[otherAt];
            int up = ys[at] - ys[otherAt];
            return right * right + up * up;
        }

        boolean isWalledOff(int way, int m, int other, int d) {
            int at = way * MAX_CORNERS + m;
            int otherAt = other * MAX_CORNERS + d;
            for (int wall = 0; wall < wallCount; wall++) {
                if (isCrossed(wall, xs[at], ys[at], xs[otherAt], ys[otherAt])) {
                    return true;
                }
            }
            return false;
        }

        /** Two lines with ends meet, if their boxes do and neither is all on one side of the other. */
        private boolean isCrossed(int wall, int mx, int my, int dx, int dy) {
            int ax = walls[wall * 4];
            int ay = walls[wall * 4 + 1];
            int bx = walls[wall * 4 + 2];
            int by = walls[wall * 4 + 3];
            if (Math.max(mx, dx) < Math.min(ax, bx) || Math.max(ax, bx) < Math.min(mx, dx)
                    || Math.max(my, dy) < Math.min(ay, by) || Math.max(ay, by) < Math.min(my, dy)) {
                return false;
            }
            // A product above 0 tells that both are on one side; it may pass the bounds of an int.
            long sideOfA = (dx - mx) * (ay - my) - (dy - my) * (ax - mx);
            long sideOfB = (dx - mx) * (by - my) - (dy - my) * (bx - mx);
            long sideOfMan = (bx - ax) * (my - ay) - (by - ay) * (mx - ax);
            long sideOfDog = (bx - ax) * (dy - ay) - (by - ay) * (dx - ax);
            return sideOfA * sideOfB <= 0 && sideOfMan * sideOfDog <= 0;
        }

        /** Adds what a text tells; if it is wrong, answers false with the TAPE at what is wrong. */
        boolean readText(Tape tape) {
            tape.toFirst();
            if (tape.isOver()) {
                return true;
            }
            for (int line = 0; line < MAX_PARK_LINES; line++) {
                if (!readLine(tape)) {
                    return false;
                }
                if (tape.isOver()) {
                    return true;
                }
                if (!tape.isSign(';')) {
                    return false;
                }
                tape.toNext();
            }
            return false;
        }

        private boolean readLine(Tape tape) {
            if (tape.isWord("way") && ways < MAX_WAYS) {
                tape.toNext();
                counts[ways] = 0;
                ways++;
                return readCorners(tape, ways - 1);
            }
            if (tape.isWord("more")) {
                tape.toNext();
                if (!tape.isNumber(SHORT_DIGITS) || !hasWay(tape.value)) {
                    return false;
                }
                int way = tape.value;
                tape.toNext();
                return readCorners(tape, way);
            }
            if (tape.isWord("wall") && wallCount < MAX_WALLS) {
                tape.toNext();
                return readWall(tape);
            }
            return false;
        }

        private boolean readCorners(Tape tape, int way) {
            for (int corner = counts[way]; corner < MAX_CORNERS; corner++) {
                if (!tape.isNumber(SHORT_DIGITS)) {
                    return false;
                }
                xs[way * MAX_CORNERS + corner] = tape.value;
                tape.toNext();
                if (!tape.isNumber(SHORT_DIGITS)) {
                    return false;
                }
                ys[way * MAX_CORNERS + corner] = tape.value;
                tape.toNext();
                counts[way]++;
                if (tape.isOver() || tape.isSign(';')) {
                    return true;
                }
            }
            return false;
        }

        private boolean readWall(Tape tape) {
            for (int k = 0; k < 4; k++) {
                if (!tape.isNumber(SHORT_DIGITS)) {
                    return false;
                }
                walls[wallCount * 4 + k] = tape.value;
                tape.toNext();
            }
            wallCount++;
            return true;
        }
    }

    /** THE LAW as a row of orders for a small machine: numbers and parts add up, the others judge. */
    private static final class Law {
        /** No text makes more orders than it has bytes: what leads to a comparison has more bytes than orders. */
        private static final int MAX_ORDERS = MAX_TAPE;
        private static final int PARTS_TOLD = 7;
        /** An order from -1 down to -7 adds a part, one of 0 and above adds itself. */
        private static final int LAST_PART = -PARTS_TOLD;
        private static final int TURN = -8;
        private static final int LESS = -9;
        private static final int MORE = -10;
        private static final int NOT = -11;
        private static final int AND = -12;
        private static final int OR = -13;
        private static final int ALWAYS = -14;
        private static final int LINE = -15;

        private final int[] orders = new int[MAX_ORDERS];
        private final int[] seen = new int[PARTS_TOLD];
        private int size = 0;
        private int lines = NONE;

        void copyFrom(Law model) {
            System.arraycopy(model.orders, 0, orders, 0, orders.length);
            size = model.size;
            lines = model.lines;
        }

        boolean isBroken(Ground ground, int way, int m, int other, int d) {
            if (size == 0) {
                return false;
            }
            seen[0] = m;
            seen[1] = d;
            seen[2] = ground.distance(way, m, other, d);
            seen[3] = ground.xOf(way, m);
            seen[4] = ground.yOf(way, m);
            seen[5] = ground.xOf(other, d);
            seen[6] = ground.yOf(other, d);
            return someLineHolds();
        }

        /** Truths are stacked as bits, the latest lowest: MAX_DEPTH keeps them far below 32. */
        private boolean someLineHolds() {
            int sum = 0;
            int left = 0;
            int truths = 0;
            for (int k = 0; k < size; k++) {
                int order = orders[k];
                if (order >= 0) {
                    sum += order;
                    continue;
                }
                if (order >= LAST_PART) {
                    sum += seen[-1 - order];
                    continue;
                }
                switch (order) {
                    case TURN:
                        left = sum;
                        sum = 0;
                        break;
                    case LESS:
                        truths = truths << 1 | (left < sum ? 1 : 0);
                        sum = 0;
                        break;
                    case MORE:
                        truths = truths << 1 | (left > sum ? 1 : 0);
                        sum = 0;
                        break;
                    case NOT:
                        truths ^= 1;
                        break;
                    case AND:
                        // The latest two become one here and by OR; those below stay as they are.
                        truths = truths >> 1 & (truths | ~1);
                        break;
                    case OR:
                        truths = truths >> 1 | truths & 1;
                        break;
                    case ALWAYS:
                        truths = 1;
                        break;
                    default:
                        if ((truths & 1) == 1) {
                            return true;
                        }
                        truths = 0;
                        break;
                }
            }
            return false;
        }

        /** Takes a text in place of what was; if it is wrong, answers false with the TAPE at what is wrong. */
        boolean readText(Tape tape) {
            size = 0;
            lines = 0;
            tape.toFirst();
            if (tape.isOver()) {
                return true;
            }
            for (int line = 0; line < MAX_LAW_LINES && tape.isWord("bar"); line++) {
                tape.toNext();
                if (!tape.isWord("if")) {
                    give(ALWAYS);
                } else {
                    tape.toNext();
                    if (!readCondition(tape, 0)) {
                        return false;
                    }
                }
                give(LINE);
                lines++;
                if (tape.isOver()) {
                    return true;
                }
                if (!tape.isSign(';')) {
                    return false;
                }
                tape.toNext();
            }
            return false;
        }

        private void give(int order) {
            if (size < MAX_ORDERS) {
                orders[size] = order;
                size++;
            }
        }

        /** Joins by and are closed ahead of joins by or, which wait for the and behind them. */
        private boolean readCondition(Tape tape, int depth) {
            boolean andWaits = false;
            boolean orWaits = false;
            for (int k = 0; k < MAX_TAPE; k++) {
                if (!readAtom(tape, depth)) {
                    return false;
                }
                if (andWaits) {
                    give(AND);
                }
                andWaits = tape.isWord("and");
                if (!andWaits) {
                    if (orWaits) {
                        give(OR);
                    }
                    orWaits = tape.isWord("or");
                    if (!orWaits) {
                        return true;
                    }
                }
                tape.toNext();
            }
            return false;
        }

        private boolean readAtom(Tape tape, int depth) {
            boolean denies = tape.isWord("not");
            if (!denies && !tape.isSign('(')) {
                return readComparison(tape);
            }
            if (depth >= MAX_DEPTH) {
                return false;
            }
            tape.toNext();
            if (denies) {
                if (!readAtom(tape, depth + 1)) {
                    return false;
                }
                give(NOT);
                return true;
            }
            if (!readCondition(tape, depth + 1) || !tape.isSign(')')) {
                return false;
            }
            tape.toNext();
            return true;
        }

        private boolean readComparison(Tape tape) {
            if (!readSum(tape)) {
                return false;
            }
            boolean less = tape.isSign('<');
            if (!less && !tape.isSign('>')) {
                return false;
            }
            give(TURN);
            tape.toNext();
            if (!readSum(tape)) {
                return false;
            }
            give(less ? LESS : MORE);
            return true;
        }

        private boolean readSum(Tape tape) {
            for (int k = 0; k < MAX_TAPE; k++) {
                int part = tape.isNumber(LONG_DIGITS) ? tape.value : partByWord(tape);
                if (part < LAST_PART) {
                    return false;
                }
                give(part);
                tape.toNext();
                if (!tape.isSign('+')) {
                    return true;
                }
                tape.toNext();
            }
            return false;
        }

        /** The order for the word at hand; one below all parts, if it is none of theirs. */
        private static int partByWord(Tape tape) {
            if (tape.isWord("man")) {
                return -1;
            }
            if (tape.isWord("dog")) {
                return -2;
            }
            if (tape.isWord("far")) {
                return -3;
            }
            if (tape.isWord("mx")) {
                return -4;
            }
            if (tape.isWord("my")) {
                return -5;
            }
            if (tape.isWord("dx")) {
                return -6;
            }
            return tape.isWord("dy") ? -7 : LAST_PART - 1;
        }
    }

    /** The TRACKS: all MARKS in the order in which they came. */
    private static final class Marks {
        private final int[] minutes = new int[MAX_MARKS];
        private final int[] xs = new int[MAX_MARKS];
        private final int[] ys = new int[MAX_MARKS];
        /** 0 the man's, 1 the dog's. */
        private final int[] whose = new int[MAX_MARKS];
        private int size = 0;

        void copyFrom(Marks model) {
            System.arraycopy(model.minutes, 0, minutes, 0, minutes.length);
            System.arraycopy(model.xs, 0, xs, 0, xs.length);
            System.arraycopy(model.ys, 0, ys, 0, ys.length);
            System.arraycopy(model.whose, 0, whose, 0, whose.length);
            size = model.size;
        }

        /** The caller has looked whether there is room. */
        int add(boolean dogs, int minute, int x, int y) {
            int number = size;
            minutes[number] = minute;
            xs[number] = x;
            ys[number] = y;
            whose[number] = dogs ? 1 : 0;
            size++;
            return number;
        }

        private int distance(int one, int other) {
            int right = xs[one] - xs[other];
            int up = ys[one] - ys[other];
            return right * right + up * up;
        }

        int greatestOfOneMinute() {
            int greatest = NONE;
            for (int one = 0; one < size; one++) {
                for (int other = one + 1; other < size; other++) {
                    if (whose[one] != whose[other] && minutes[one] == minutes[other]) {
                        greatest = Math.max(greatest, distance(one, other));
                    }
                }
            }
            return greatest;
        }

        private boolean isFit(int one, int other, int length, int pace) {
            long reach = pace * Math.abs(minutes[one] - minutes[other]);
            if (whose[one] != whose[other]) {
                reach += length;
            }
            return distance(one, other) <= reach * reach;
        }

        int countMisfits(int length, int pace) {
            int misfits = 0;
            for (int one = 0; one < size; one++) {
                for (int other = one + 1; other < size; other++) {
                    if (!isFit(one, other, length, pace)) {
                        misfits++;
                    }
                }
            }
            return misfits;
        }

        int firstMisfit(int length, int pace) {
            for (int one = 0; one < size; one++) {
                for (int other = one + 1; other < size; other++) {
                    if (!isFit(one, other, length, pace)) {
                        return 100 * one + other;
                    }
                }
            }
            return NONE;
        }
    }

    /** The WALK ON THE WAY, with the STEPS that can be taken back. */
    private static final class Stroll {
        private boolean underWay = false;
        private int way = 0;
        private int other = 0;
        private int lead = 0;
        private int man = 0;
        private int dog = 0;
        private int gone = 0;
        private int greatest = 0;
        private int remembered = 0;
        /** Of each STEP that was gone: which, and the greatest FAR ahead of it. */
        private final int[] steps = new int[MAX_STEPS];
        private final int[] greatestAhead = new int[MAX_STEPS];

        /** No STEPS are remembered in a copy. */
        void copyFrom(Stroll model) {
            underWay = model.underWay;
            way = model.way;
            other = model.other;
            lead = model.lead;
            man = model.man;
            dog = model.dog;
            gone = model.gone;
            greatest = model.greatest;
            remembered = 0;
        }

        void start(int newWay, int newOther, int newLead, int distance) {
            underWay = true;
            way = newWay;
            other = newOther;
            lead = newLead;
            man = 0;
            dog = 0;
            gone = 0;
            greatest = distance;
            remembered = 0;
        }

        void advance(int step, int distance) {
            if (gone >= MAX_STEPS) {
                return;
            }
            steps[gone] = step;
            greatestAhead[gone] = greatest;
            gone++;
            man += manMoves(step);
            dog += dogMoves(step);
            greatest = Math.max(greatest, distance);
            remembered = Math.min(remembered + 1, MAX_REMEMBERED);
        }

        int takeBack() {
            if (!underWay || remembered == 0 || gone == 0) {
                return NONE;
            }
            gone--;
            remembered--;
            int step = steps[gone];
            man -= manMoves(step);
            dog -= dogMoves(step);
            greatest = greatestAhead[gone];
            return step;
        }
    }

    /** All that THE IMAGE keeps. */
    private static final class Scene {
        private final Ground ground = new Ground();
        private final Law law = new Law();
        private final Marks marks = new Marks();
        private final Stroll stroll = new Stroll();
        private int drawSeed = 1;

        void copyFrom(Scene model) {
            ground.copyFrom(model.ground);
            law.copyFrom(model.law);
            marks.copyFrom(model.marks);
            stroll.copyFrom(model.stroll);
            drawSeed = model.drawSeed;
        }

        boolean isShut(int way, int m, int other, int d) {
            return ground.isWalledOff(way, m, other, d) || law.isBroken(ground, way, m, other, d);
        }

        /** Whether there is such a PLACE, and one may stand there by a LEAD. */
        boolean allows(int way, int m, int other, int d, int lead) {
            return ground.hasCorner(way, m) && ground.hasCorner(other, d)
                    && ground.distance(way, m, other, d) <= lead && !isShut(way, m, other, d);
        }

        boolean canGo(int step) {
            return stroll.underWay && allows(stroll.way, stroll.man + manMoves(step),
                    stroll.other, stroll.dog + dogMoves(step), stroll.lead);
        }

        /** Goes a STEP that can be gone: FAR then. */
        int go(int step) {
            int distance = ground.distance(stroll.way, stroll.man + manMoves(step),
                    stroll.other, stroll.dog + dogMoves(step));
            stroll.advance(step, distance);
            return distance;
        }

        boolean isStrollOver() {
            return !ground.hasCorner(stroll.way, stroll.man + 1) && !ground.hasCorner(stroll.other, stroll.dog + 1);
        }

        /** The STEP that a DRAW tells; NONE, without a DRAW, if none can be gone. */
        int drawStep() {
            int open = 0;
            int choices = 0;
            for (int step = MAN_ALONE; step <= BOTH; step++) {
                if (canGo(step)) {
                    open |= 1 << step;
                    choices++;
                }
            }
            if (choices == 0) {
                return NONE;
            }
            int skipped = nextDraw() % choices;
            for (int step = MAN_ALONE; step <= BOTH; step++) {
                if ((open >> step & 1) == 0) {
                    continue;
                }
                if (skipped == 0) {
                    return step;
                }
                skipped--;
            }
            return NONE;
        }

        private int nextDraw() {
            drawSeed = 1103515245 * drawSeed + 12345;
            return drawSeed >> 16 & 0x7fff;
        }
    }

    /** The PLACES of two WAYS with their prices, and what is best from each of them on. */
    private static final class Grid {
        /** One place more ahead, and two behind (a round ends on one more), so that no edge needs a look. */
        private static final int STRIDE = MAX_CORNERS + 3;

        private final int[] prices = new int[STRIDE * STRIDE];
        private final int[] best = new int[STRIDE * STRIDE];
        private int rows = 0;
        private int columns = 0;

        private static int cell(int m, int d) {
            return (m + 1) * STRIDE + d + 1;
        }

        void lay(Scene scene, int way, int other) {
            rows = scene.ground.counts[way];
            columns = scene.ground.counts[other];
            for (int m = 0; m < rows; m++) {
                for (int d = 0; d < columns; d++) {
                    prices[cell(m, d)] = scene.isShut(way, m, other, d)
                            ? FORBIDDEN : scene.ground.distance(way, m, other, d);
                }
            }
        }

        /** A place behind both ends costs nothing, all others behind are forbidden: only the ends lead out. */
        private void fence(int men, int dogs) {
            for (int m = 0; m < men; m++) {
                best[cell(m, dogs)] = FORBIDDEN;
            }
            for (int d = 0; d < dogs; d++) {
                best[cell(men, d)] = FORBIDDEN;
            }
            best[cell(men, dogs)] = 0;
        }

        /** LEAST of walks by so many places of the man, and of the dog, who goes round from his corner on. */
        int settle(int men, int dogs, int from) {
            fence(men, dogs);
            for (int m = men - 1; m >= 0; m--) {
                int row = m >= rows ? m - rows : m;
                for (int d = dogs - 1; d >= 0; d--) {
                    int column = d + from >= columns ? d + from - columns : d + from;
                    best[cell(m, d)] = Math.max(prices[cell(row, column)], bestAhead(m, d));
                }
            }
            return best[cell(0, 0)];
        }

        private int bestAhead(int m, int d) {
            return Math.min(best[cell(m + 1, d + 1)], Math.min(best[cell(m + 1, d)], best[cell(m, d + 1)]));
        }

        /** After settle: of FIRST the STEP k, or how many STEPS (k NONE). */
        int firstWalk(int k) {
            int m = 0;
            int d = 0;
            int gone = 0;
            while (gone < MAX_STEPS && !isEnd(m, d)) {
                int step = firstStep(m, d);
                if (gone == k) {
                    return step;
                }
                m += manMoves(step);
                d += dogMoves(step);
                gone++;
            }
            return k == NONE ? gone : NONE;
        }

        /** After settle: of FIRST the first PLACE as FAR as LEAST. */
        int farthestOfFirstWalk() {
            int m = 0;
            int d = 0;
            for (int gone = 0; gone < MAX_STEPS && !isEnd(m, d); gone++) {
                if (prices[cell(m, d)] == best[cell(0, 0)]) {
                    break;
                }
                int step = firstStep(m, d);
                m += manMoves(step);
                d += dogMoves(step);
            }
            return 100 * m + d;
        }

        private boolean isEnd(int m, int d) {
            return m >= rows - 1 && d >= columns - 1;
        }

        private int firstStep(int m, int d) {
            for (int step = MAN_ALONE; step < BOTH; step++) {
                if (best[cell(m + manMoves(step), d + dogMoves(step))] <= best[cell(0, 0)]) {
                    return step;
                }
            }
            return BOTH;
        }

        int leastSum() {
            fence(rows, columns);
            for (int m = rows - 1; m >= 0; m--) {
                for (int d = columns - 1; d >= 0; d--) {
                    int ahead = bestAhead(m, d);
                    int price = prices[cell(m, d)];
                    best[cell(m, d)] = ahead == FORBIDDEN || price == FORBIDDEN ? FORBIDDEN : ahead + price;
                }
            }
            return best[cell(0, 0)];
        }

        /** Improves all places, from the last to the first and back, until none changes. */
        int leastGoingBack() {
            Arrays.fill(best, FORBIDDEN);
            best[cell(rows - 1, columns - 1)] = prices[cell(rows - 1, columns - 1)];
            boolean changed = true;
            for (int round = 0; changed && round < MAX_CORNERS * MAX_CORNERS; round++) {
                changed = false;
                for (int m = rows - 1; m >= 0; m--) {
                    for (int d = columns - 1; d >= 0; d--) {
                        changed |= improve(cell(m, d));
                    }
                }
                for (int m = 0; m < rows; m++) {
                    for (int d = 0; d < columns; d++) {
                        changed |= improve(cell(m, d));
                    }
                }
            }
            return best[cell(0, 0)];
        }

        private boolean improve(int at) {
            int above = Math.min(best[at - STRIDE], Math.min(best[at - STRIDE - 1], best[at - STRIDE + 1]));
            int below = Math.min(best[at + STRIDE], Math.min(best[at + STRIDE - 1], best[at + STRIDE + 1]));
            int beside = Math.min(best[at - 1], best[at + 1]);
            int better = Math.max(prices[at], Math.min(beside, Math.min(above, below)));
            if (better >= best[at]) {
                return false;
            }
            best[at] = better;
            return true;
        }

        /** RING: LEAST, or the first B by which it is so; NONE. */
        int leastRound(boolean tellBegin) {
            int men = rows == 1 ? 1 : rows + 1;
            int dogs = columns == 1 ? 1 : columns + 1;
            int least = FORBIDDEN;
            int chosen = NONE;
            for (int from = 0; from < columns; from++) {
                int lead = settle(men, dogs, from);
                if (lead < least) {
                    least = lead;
                    chosen = from;
                }
            }
            return tellBegin ? chosen : orNone(least);
        }
    }

    /** Walks of a man with two dogs: for each of his CORNERS a layer of the PLACES of both dogs. */
    private static final class Pack {
        /** One place more ahead, so that no edge needs a look. */
        private static final int STRIDE = MAX_CORNERS + 1;

        private final int[] toOne = new int[MAX_CORNERS];
        private final int[] toOther = new int[MAX_CORNERS];
        private final int[] between = new int[MAX_CORNERS * MAX_CORNERS];
        private final int[] evenLayer = new int[STRIDE * STRIDE];
        private final int[] oddLayer = new int[STRIDE * STRIDE];
        private int ones = 0;
        private int others = 0;

        int leastLead(Scene scene, int way, int one, int other, boolean three) {
            ones = scene.ground.counts[one];
            others = scene.ground.counts[other];
            measureBetween(scene.ground, one, other, three);
            Arrays.fill(evenLayer, FORBIDDEN);
            Arrays.fill(oddLayer, FORBIDDEN);
            int[] now = evenLayer;
            int[] before = oddLayer;
            // A place ahead of all three begins costs nothing, so that only the begins lead into the layers.
            before[0] = 0;
            for (int m = 0; m < scene.ground.counts[way]; m++) {
                measure(scene, way, m, one, toOne, three);
                measure(scene, way, m, other, toOther, three);
                passLayer(before, now);
                before[0] = FORBIDDEN;
                int[] spare = before;
                before = now;
                now = spare;
            }
            return before[ones * STRIDE + others];
        }

        private void measureBetween(Ground ground, int one, int other, boolean three) {
            for (int i = 0; i < ones; i++) {
                for (int j = 0; j < others; j++) {
                    between[i * MAX_CORNERS + j] = three ? ground.distance(one, i, other, j) : 0;
                }
            }
        }

        private static void measure(Scene scene, int way, int m, int dogWay, int[] row, boolean three) {
            for (int d = 0; d < scene.ground.counts[dogWay]; d++) {
                boolean closed = !three && scene.isShut(way, m, dogWay, d);
                row[d] = closed ? FORBIDDEN : scene.ground.distance(way, m, dogWay, d);
            }
        }

        private void passLayer(int[] before, int[] now) {
            for (int i = 0; i < ones; i++) {
                for (int j = 0; j < others; j++) {
                    int at = (i + 1) * STRIDE + j + 1;
                    int price = Math.max(between[i * MAX_CORNERS + j], Math.max(toOne[i], toOther[j]));
                    int stood = Math.min(now[at - 1], Math.min(now[at - STRIDE], now[at - STRIDE - 1]));
                    int walked = Math.min(Math.min(before[at], before[at - 1]),
                            Math.min(before[at - STRIDE], before[at - STRIDE - 1]));
                    now[at] = Math.max(price, Math.min(stood, walked));
                }
            }
        }
    }

    /** PARTS: the points of both WAYS, all lengths taken N times, and the walks from point to point. */
    private static final class Pieces {
        private static final int MAX_POINTS = (MAX_CORNERS - 1) * MAX_PARTS + 1;

        private final int[] manX = new int[MAX_POINTS];
        private final int[] manY = new int[MAX_POINTS];
        private final int[] dogX = new int[MAX_POINTS];
        private final int[] dogY = new int[MAX_POINTS];
        private final int[] best = new int[MAX_POINTS + 1];

        int leastLead(Ground ground, int way, int other, int n) {
            int men = layPoints(ground, way, n, manX, manY);
            int dogs = layPoints(ground, other, n, dogX, dogY);
            Arrays.fill(best, FORBIDDEN);
            // A place ahead of both begins costs nothing, so that only the begins lead into the rows.
            best[0] = 0;
            for (int m = 0; m < men; m++) {
                passRow(m, dogs);
            }
            return best[dogs];
        }

        private static int layPoints(Ground ground, int way, int n, int[] xs, int[] ys) {
            int last = ground.counts[way] - 1;
            int points = 0;
            for (int corner = 0; corner < last; corner++) {
                for (int part = 0; part < n; part++) {
                    xs[points] = ground.xOf(way, corner) * (n - part) + ground.xOf(way, corner + 1) * part;
                    ys[points] = ground.yOf(way, corner) * (n - part) + ground.yOf(way, corner + 1) * part;
                    points++;
                }
            }
            xs[points] = ground.xOf(way, last) * n;
            ys[points] = ground.yOf(way, last) * n;
            return points + 1;
        }

        private void passRow(int m, int dogs) {
            int diagonal = best[0];
            best[0] = FORBIDDEN;
            for (int d = 0; d < dogs; d++) {
                int right = manX[m] - dogX[d];
                int up = manY[m] - dogY[d];
                int above = best[d + 1];
                int ahead = Math.min(diagonal, Math.min(above, best[d]));
                best[d + 1] = Math.max(ahead, right * right + up * up);
                diagonal = above;
            }
        }
    }

    /** FEWER: the fewest CORNERS of a WAY that walk with the WAY itself by a LEAD. */
    private static final class Thinning {
        private static final int STRIDE = MAX_CORNERS + 1;

        /** By the CORNER one is at and the WAY's own: the fewest from here to the end, this one too. */
        private final int[] fewest = new int[STRIDE * STRIDE];
        /** By the WAY's own CORNER: the least of fewest for all later CORNERS one may go on to. */
        private final int[] fewestLater = new int[STRIDE];

        int fewestCorners(Ground ground, int way, int lead) {
            int size = ground.counts[way];
            Arrays.fill(fewest, FORBIDDEN);
            Arrays.fill(fewestLater, FORBIDDEN);
            for (int chosen = size - 1; chosen >= 0; chosen--) {
                countFrom(ground, way, chosen, lead);
                for (int at = 0; at < size; at++) {
                    fewestLater[at] = Math.min(fewestLater[at], fewest[chosen * STRIDE + at]);
                }
            }
            return firstChoice(size);
        }

        private void countFrom(Ground ground, int way, int chosen, int lead) {
            int size = ground.counts[way];
            for (int at = size - 1; at >= 0; at--) {
                if (ground.distance(way, chosen, way, at) > lead) {
                    continue;
                }
                int later = Math.min(fewestLater[at], fewestLater[at + 1]);
                int count = later == FORBIDDEN ? FORBIDDEN : later + 1;
                if (chosen == size - 1 && at == size - 1) {
                    count = 1;
                }
                fewest[chosen * STRIDE + at] = Math.min(count, fewest[chosen * STRIDE + at + 1]);
            }
        }

        /** Takes the least next CORNER each time; the WAY's own CORNERS one may be at are kept as bits. */
        private int firstChoice(int size) {
            int bits = 1;
            int chosen = 0;
            int reached = walkOn(0, 1, size);
            for (int left = fewest[0] - 1; left >= 1 && chosen < size - 1; left--) {
                int entries = reached | reached << 1;
                chosen++;
                while (chosen < size - 1 && !leadsOn(chosen, entries, left, size)) {
                    chosen++;
                }
                bits |= 1 << chosen;
                reached = walkOn(chosen, entries, size);
            }
            return bits;
        }

        private boolean leadsOn(int chosen, int entries, int left, int size) {
            for (int at = 0; at < size; at++) {
                if ((entries >> at & 1) == 1 && fewest[chosen * STRIDE + at] == left) {
                    return true;
                }
            }
            return false;
        }

        /** Of the WAY's own CORNERS those from which the end can be reached, by the entries or from one before. */
        private int walkOn(int chosen, int entries, int size) {
            int reached = 0;
            for (int at = 0; at < size; at++) {
                boolean entered = (entries >> at & 1) == 1 || at > 0 && (reached >> at - 1 & 1) == 1;
                if (entered && fewest[chosen * STRIDE + at] != FORBIDDEN) {
                    reached |= 1 << at;
                }
            }
            return reached;
        }
    }
}
